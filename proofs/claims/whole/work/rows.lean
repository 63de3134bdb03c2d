section
-- ===== PART A: goes FIRST, ahead of the names: the tables' words, and 'selects' of the private methods out of them =====
/-- a private method of a class that the tables say can be made, by its rows of tables_1 -/
def lw_okq (q : MethodName × Nat) : Prop := (q.1.cls ≠ "java/lang/invoke/MethodHandle" ∧ q.1.cls ≠ "java/lang/invoke/VarHandle") ∧ Cond.instantiable q.1.cls q.2 ∈ tables_1 ∧ Cond.privateMethod q.1 ∈ tables_1 ∧ Cond.instanceMethod q.1 ∈ tables_1
theorem lw_p0 : lw_okq (⟨"HermitsSpoon$Page", "comes", "(C)Z"⟩, 8) := ⟨⟨by decide +kernel, by decide +kernel⟩, List.mem_of_getElem? (i := 57) (by decide +kernel), List.mem_of_getElem? (i := 259) (by decide +kernel), List.mem_of_getElem? (i := 260) (by decide +kernel)⟩
theorem lw_p1 : lw_okq (⟨"HermitsSpoon$Page", "digit", "()I"⟩, 8) := ⟨⟨by decide +kernel, by decide +kernel⟩, List.mem_of_getElem? (i := 57) (by decide +kernel), List.mem_of_getElem? (i := 263) (by decide +kernel), List.mem_of_getElem? (i := 264) (by decide +kernel)⟩
theorem lw_p2 : lw_okq (⟨"java/util/ArrayList", "add", "(Ljava/lang/Object;[Ljava/lang/Object;I)V"⟩, 3) := ⟨⟨by decide +kernel, by decide +kernel⟩, List.mem_of_getElem? (i := 31) (by decide +kernel), List.mem_of_getElem? (i := 305) (by decide +kernel), List.mem_of_getElem? (i := 306) (by decide +kernel)⟩
theorem lw_p3 : lw_okq (⟨"java/util/ArrayList", "grow", "()[Ljava/lang/Object;"⟩, 3) := ⟨⟨by decide +kernel, by decide +kernel⟩, List.mem_of_getElem? (i := 31) (by decide +kernel), List.mem_of_getElem? (i := 309) (by decide +kernel), List.mem_of_getElem? (i := 310) (by decide +kernel)⟩
theorem lw_p4 : lw_okq (⟨"java/util/ArrayList", "grow", "(I)[Ljava/lang/Object;"⟩, 3) := ⟨⟨by decide +kernel, by decide +kernel⟩, List.mem_of_getElem? (i := 31) (by decide +kernel), List.mem_of_getElem? (i := 313) (by decide +kernel), List.mem_of_getElem? (i := 314) (by decide +kernel)⟩
theorem lw_p5 : lw_okq (⟨"HermitsSpoon", "vowNumbered", "(I)LHermitsSpoon$Vow;"⟩, 8) := ⟨⟨by decide +kernel, by decide +kernel⟩, List.mem_of_getElem? (i := 23) (by decide +kernel), List.mem_of_getElem? (i := 365) (by decide +kernel), List.mem_of_getElem? (i := 366) (by decide +kernel)⟩
theorem lw_p6 : lw_okq (⟨"HermitsSpoon", "isHermit", "(I)Z"⟩, 8) := ⟨⟨by decide +kernel, by decide +kernel⟩, List.mem_of_getElem? (i := 23) (by decide +kernel), List.mem_of_getElem? (i := 483) (by decide +kernel), List.mem_of_getElem? (i := 484) (by decide +kernel)⟩
theorem lw_p7 : lw_okq (⟨"HermitsSpoon", "toldOf", "(II)I"⟩, 8) := ⟨⟨by decide +kernel, by decide +kernel⟩, List.mem_of_getElem? (i := 23) (by decide +kernel), List.mem_of_getElem? (i := 504) (by decide +kernel), List.mem_of_getElem? (i := 505) (by decide +kernel)⟩
theorem lw_p8 : lw_okq (⟨"HermitsSpoon", "isSeat", "(I)Z"⟩, 8) := ⟨⟨by decide +kernel, by decide +kernel⟩, List.mem_of_getElem? (i := 23) (by decide +kernel), List.mem_of_getElem? (i := 537) (by decide +kernel), List.mem_of_getElem? (i := 538) (by decide +kernel)⟩
theorem lw_p9 : lw_okq (⟨"HermitsSpoon", "areFasts", "(I)Z"⟩, 8) := ⟨⟨by decide +kernel, by decide +kernel⟩, List.mem_of_getElem? (i := 23) (by decide +kernel), List.mem_of_getElem? (i := 562) (by decide +kernel), List.mem_of_getElem? (i := 563) (by decide +kernel)⟩
theorem lw_p10 : lw_okq (⟨"HermitsSpoon$Sitting", "isOver", "()Z"⟩, 14) := ⟨⟨by decide +kernel, by decide +kernel⟩, List.mem_of_getElem? (i := 134) (by decide +kernel), List.mem_of_getElem? (i := 583) (by decide +kernel), List.mem_of_getElem? (i := 584) (by decide +kernel)⟩
theorem lw_p11 : lw_okq (⟨"HermitsSpoon$Sitting", "seatServed", "(LHermitsSpoon$Vow;II)I"⟩, 14) := ⟨⟨by decide +kernel, by decide +kernel⟩, List.mem_of_getElem? (i := 134) (by decide +kernel), List.mem_of_getElem? (i := 587) (by decide +kernel), List.mem_of_getElem? (i := 588) (by decide +kernel)⟩
theorem lw_p12 : lw_okq (⟨"HermitsSpoon$Sitting", "isSkipped", "(LHermitsSpoon$Vow;II)Z"⟩, 14) := ⟨⟨by decide +kernel, by decide +kernel⟩, List.mem_of_getElem? (i := 134) (by decide +kernel), List.mem_of_getElem? (i := 592) (by decide +kernel), List.mem_of_getElem? (i := 593) (by decide +kernel)⟩
theorem lw_p13 : lw_okq (⟨"HermitsSpoon$Sitting", "stir", "()V"⟩, 14) := ⟨⟨by decide +kernel, by decide +kernel⟩, List.mem_of_getElem? (i := 134) (by decide +kernel), List.mem_of_getElem? (i := 612) (by decide +kernel), List.mem_of_getElem? (i := 613) (by decide +kernel)⟩
theorem lw_p14 : lw_okq (⟨"HermitsSpoon$Sitting", "eat", "(I)V"⟩, 14) := ⟨⟨by decide +kernel, by decide +kernel⟩, List.mem_of_getElem? (i := 134) (by decide +kernel), List.mem_of_getElem? (i := 617) (by decide +kernel), List.mem_of_getElem? (i := 618) (by decide +kernel)⟩
theorem lw_p15 : lw_okq (⟨"HermitsSpoon$Sitting", "takeBite", "(II)V"⟩, 14) := ⟨⟨by decide +kernel, by decide +kernel⟩, List.mem_of_getElem? (i := 134) (by decide +kernel), List.mem_of_getElem? (i := 644) (by decide +kernel), List.mem_of_getElem? (i := 645) (by decide +kernel)⟩
def lw_privs_1 : List (MethodName × Nat) := [(⟨"HermitsSpoon$Page", "comes", "(C)Z"⟩, 8), (⟨"HermitsSpoon$Page", "digit", "()I"⟩, 8), (⟨"java/util/ArrayList", "add", "(Ljava/lang/Object;[Ljava/lang/Object;I)V"⟩, 3), (⟨"java/util/ArrayList", "grow", "()[Ljava/lang/Object;"⟩, 3), (⟨"java/util/ArrayList", "grow", "(I)[Ljava/lang/Object;"⟩, 3), (⟨"HermitsSpoon", "vowNumbered", "(I)LHermitsSpoon$Vow;"⟩, 8), (⟨"HermitsSpoon", "isHermit", "(I)Z"⟩, 8), (⟨"HermitsSpoon", "toldOf", "(II)I"⟩, 8), (⟨"HermitsSpoon", "isSeat", "(I)Z"⟩, 8), (⟨"HermitsSpoon", "areFasts", "(I)Z"⟩, 8), (⟨"HermitsSpoon$Sitting", "isOver", "()Z"⟩, 14), (⟨"HermitsSpoon$Sitting", "seatServed", "(LHermitsSpoon$Vow;II)I"⟩, 14), (⟨"HermitsSpoon$Sitting", "isSkipped", "(LHermitsSpoon$Vow;II)Z"⟩, 14), (⟨"HermitsSpoon$Sitting", "stir", "()V"⟩, 14), (⟨"HermitsSpoon$Sitting", "eat", "(I)V"⟩, 14), (⟨"HermitsSpoon$Sitting", "takeBite", "(II)V"⟩, 14)]
theorem lw_r1 : ∀ q ∈ lw_privs_1, lw_okq q := List.forall_mem_cons.mpr ⟨lw_p0, List.forall_mem_cons.mpr ⟨lw_p1, List.forall_mem_cons.mpr ⟨lw_p2, List.forall_mem_cons.mpr ⟨lw_p3, List.forall_mem_cons.mpr ⟨lw_p4, List.forall_mem_cons.mpr ⟨lw_p5, List.forall_mem_cons.mpr ⟨lw_p6, List.forall_mem_cons.mpr ⟨lw_p7, List.forall_mem_cons.mpr ⟨lw_p8, List.forall_mem_cons.mpr ⟨lw_p9, List.forall_mem_cons.mpr ⟨lw_p10, List.forall_mem_cons.mpr ⟨lw_p11, List.forall_mem_cons.mpr ⟨lw_p12, List.forall_mem_cons.mpr ⟨lw_p13, List.forall_mem_cons.mpr ⟨lw_p14, List.forall_mem_cons.mpr ⟨lw_p15, fun _ h => absurd h List.not_mem_nil⟩⟩⟩⟩⟩⟩⟩⟩⟩⟩⟩⟩⟩⟩⟩⟩
theorem lw_p16 : lw_okq (⟨"HermitsSpoon$Sitting", "firstLayer", "()I"⟩, 14) := ⟨⟨by decide +kernel, by decide +kernel⟩, List.mem_of_getElem? (i := 134) (by decide +kernel), List.mem_of_getElem? (i := 663) (by decide +kernel), List.mem_of_getElem? (i := 664) (by decide +kernel)⟩
theorem lw_p17 : lw_okq (⟨"HermitsSpoon$Sitting", "worthOf", "(III)I"⟩, 14) := ⟨⟨by decide +kernel, by decide +kernel⟩, List.mem_of_getElem? (i := 134) (by decide +kernel), List.mem_of_getElem? (i := 668) (by decide +kernel), List.mem_of_getElem? (i := 669) (by decide +kernel)⟩
theorem lw_p18 : lw_okq (⟨"HermitsSpoon$Sitting", "look", "(IIIII)V"⟩, 14) := ⟨⟨by decide +kernel, by decide +kernel⟩, List.mem_of_getElem? (i := 134) (by decide +kernel), List.mem_of_getElem? (i := 672) (by decide +kernel), List.mem_of_getElem? (i := 673) (by decide +kernel)⟩
theorem lw_p19 : lw_okq (⟨"HermitsSpoon$Sitting", "passTime", "(I)V"⟩, 14) := ⟨⟨by decide +kernel, by decide +kernel⟩, List.mem_of_getElem? (i := 134) (by decide +kernel), List.mem_of_getElem? (i := 687) (by decide +kernel), List.mem_of_getElem? (i := 688) (by decide +kernel)⟩
theorem lw_p20 : lw_okq (⟨"HermitsSpoon$Council", "fastersOf", "(II)I"⟩, 3) := ⟨⟨by decide +kernel, by decide +kernel⟩, List.mem_of_getElem? (i := 191) (by decide +kernel), List.mem_of_getElem? (i := 773) (by decide +kernel), List.mem_of_getElem? (i := 774) (by decide +kernel)⟩
theorem lw_p21 : lw_okq (⟨"HermitsSpoon$Sitting", "seatAlive", "(IZ)I"⟩, 14) := ⟨⟨by decide +kernel, by decide +kernel⟩, List.mem_of_getElem? (i := 134) (by decide +kernel), List.mem_of_getElem? (i := 798) (by decide +kernel), List.mem_of_getElem? (i := 799) (by decide +kernel)⟩
theorem lw_p22 : lw_okq (⟨"HermitsSpoon", "leftIf", "(ILHermitsSpoon$Vow;II)I"⟩, 8) := ⟨⟨by decide +kernel, by decide +kernel⟩, List.mem_of_getElem? (i := 23) (by decide +kernel), List.mem_of_getElem? (i := 806) (by decide +kernel), List.mem_of_getElem? (i := 807) (by decide +kernel)⟩
theorem lw_p23 : lw_okq (⟨"HermitsSpoon", "counted", "(I)I"⟩, 8) := ⟨⟨by decide +kernel, by decide +kernel⟩, List.mem_of_getElem? (i := 23) (by decide +kernel), List.mem_of_getElem? (i := 823) (by decide +kernel), List.mem_of_getElem? (i := 824) (by decide +kernel)⟩
theorem lw_p24 : lw_okq (⟨"HermitsSpoon", "vowDigested", "(JLHermitsSpoon$Vow;)J"⟩, 8) := ⟨⟨by decide +kernel, by decide +kernel⟩, List.mem_of_getElem? (i := 23) (by decide +kernel), List.mem_of_getElem? (i := 835) (by decide +kernel), List.mem_of_getElem? (i := 836) (by decide +kernel)⟩
theorem lw_p25 : lw_okq (⟨"HermitsSpoonModel", "readVow", "()V"⟩, 50) := ⟨⟨by decide +kernel, by decide +kernel⟩, List.mem_of_getElem? (i := 840) (by decide +kernel), List.mem_of_getElem? (i := 1012) (by decide +kernel), List.mem_of_getElem? (i := 1013) (by decide +kernel)⟩
theorem lw_p26 : lw_okq (⟨"HermitsSpoonModel", "nextState", "(II)I"⟩, 50) := ⟨⟨by decide +kernel, by decide +kernel⟩, List.mem_of_getElem? (i := 840) (by decide +kernel), List.mem_of_getElem? (i := 1016) (by decide +kernel), List.mem_of_getElem? (i := 1017) (by decide +kernel)⟩
theorem lw_p27 : lw_okq (⟨"HermitsSpoonModel", "afterTurns", "(I)I"⟩, 50) := ⟨⟨by decide +kernel, by decide +kernel⟩, List.mem_of_getElem? (i := 840) (by decide +kernel), List.mem_of_getElem? (i := 1023) (by decide +kernel), List.mem_of_getElem? (i := 1024) (by decide +kernel)⟩
theorem lw_p28 : lw_okq (⟨"HermitsSpoonModel", "isVow", "(I)Z"⟩, 50) := ⟨⟨by decide +kernel, by decide +kernel⟩, List.mem_of_getElem? (i := 840) (by decide +kernel), List.mem_of_getElem? (i := 1035) (by decide +kernel), List.mem_of_getElem? (i := 1036) (by decide +kernel)⟩
theorem lw_p29 : lw_okq (⟨"HermitsSpoonModel", "vowNow", "(II)I"⟩, 50) := ⟨⟨by decide +kernel, by decide +kernel⟩, List.mem_of_getElem? (i := 840) (by decide +kernel), List.mem_of_getElem? (i := 1039) (by decide +kernel), List.mem_of_getElem? (i := 1040) (by decide +kernel)⟩
theorem lw_p30 : lw_okq (⟨"HermitsSpoonModel", "isHermit", "(I)Z"⟩, 50) := ⟨⟨by decide +kernel, by decide +kernel⟩, List.mem_of_getElem? (i := 840) (by decide +kernel), List.mem_of_getElem? (i := 1054) (by decide +kernel), List.mem_of_getElem? (i := 1055) (by decide +kernel)⟩
theorem lw_p31 : lw_okq (⟨"HermitsSpoonModel", "hermitNow", "(II)I"⟩, 50) := ⟨⟨by decide +kernel, by decide +kernel⟩, List.mem_of_getElem? (i := 840) (by decide +kernel), List.mem_of_getElem? (i := 1062) (by decide +kernel), List.mem_of_getElem? (i := 1063) (by decide +kernel)⟩
def lw_privs_2 : List (MethodName × Nat) := [(⟨"HermitsSpoon$Sitting", "firstLayer", "()I"⟩, 14), (⟨"HermitsSpoon$Sitting", "worthOf", "(III)I"⟩, 14), (⟨"HermitsSpoon$Sitting", "look", "(IIIII)V"⟩, 14), (⟨"HermitsSpoon$Sitting", "passTime", "(I)V"⟩, 14), (⟨"HermitsSpoon$Council", "fastersOf", "(II)I"⟩, 3), (⟨"HermitsSpoon$Sitting", "seatAlive", "(IZ)I"⟩, 14), (⟨"HermitsSpoon", "leftIf", "(ILHermitsSpoon$Vow;II)I"⟩, 8), (⟨"HermitsSpoon", "counted", "(I)I"⟩, 8), (⟨"HermitsSpoon", "vowDigested", "(JLHermitsSpoon$Vow;)J"⟩, 8), (⟨"HermitsSpoonModel", "readVow", "()V"⟩, 50), (⟨"HermitsSpoonModel", "nextState", "(II)I"⟩, 50), (⟨"HermitsSpoonModel", "afterTurns", "(I)I"⟩, 50), (⟨"HermitsSpoonModel", "isVow", "(I)Z"⟩, 50), (⟨"HermitsSpoonModel", "vowNow", "(II)I"⟩, 50), (⟨"HermitsSpoonModel", "isHermit", "(I)Z"⟩, 50), (⟨"HermitsSpoonModel", "hermitNow", "(II)I"⟩, 50)]
theorem lw_r2 : ∀ q ∈ lw_privs_2, lw_okq q := List.forall_mem_cons.mpr ⟨lw_p16, List.forall_mem_cons.mpr ⟨lw_p17, List.forall_mem_cons.mpr ⟨lw_p18, List.forall_mem_cons.mpr ⟨lw_p19, List.forall_mem_cons.mpr ⟨lw_p20, List.forall_mem_cons.mpr ⟨lw_p21, List.forall_mem_cons.mpr ⟨lw_p22, List.forall_mem_cons.mpr ⟨lw_p23, List.forall_mem_cons.mpr ⟨lw_p24, List.forall_mem_cons.mpr ⟨lw_p25, List.forall_mem_cons.mpr ⟨lw_p26, List.forall_mem_cons.mpr ⟨lw_p27, List.forall_mem_cons.mpr ⟨lw_p28, List.forall_mem_cons.mpr ⟨lw_p29, List.forall_mem_cons.mpr ⟨lw_p30, List.forall_mem_cons.mpr ⟨lw_p31, fun _ h => absurd h List.not_mem_nil⟩⟩⟩⟩⟩⟩⟩⟩⟩⟩⟩⟩⟩⟩⟩⟩
theorem lw_p32 : lw_okq (⟨"HermitsSpoonModel", "isSeat", "(I)Z"⟩, 50) := ⟨⟨by decide +kernel, by decide +kernel⟩, List.mem_of_getElem? (i := 840) (by decide +kernel), List.mem_of_getElem? (i := 1074) (by decide +kernel), List.mem_of_getElem? (i := 1075) (by decide +kernel)⟩
theorem lw_p33 : lw_okq (⟨"HermitsSpoonModel", "exchange", "(II)V"⟩, 50) := ⟨⟨by decide +kernel, by decide +kernel⟩, List.mem_of_getElem? (i := 840) (by decide +kernel), List.mem_of_getElem? (i := 1078) (by decide +kernel), List.mem_of_getElem? (i := 1079) (by decide +kernel)⟩
theorem lw_p34 : lw_okq (⟨"HermitsSpoonModel", "isDay", "(II)Z"⟩, 50) := ⟨⟨by decide +kernel, by decide +kernel⟩, List.mem_of_getElem? (i := 840) (by decide +kernel), List.mem_of_getElem? (i := 1098) (by decide +kernel), List.mem_of_getElem? (i := 1099) (by decide +kernel)⟩
theorem lw_p35 : lw_okq (⟨"HermitsSpoonModel", "areFasts", "(I)Z"⟩, 50) := ⟨⟨by decide +kernel, by decide +kernel⟩, List.mem_of_getElem? (i := 840) (by decide +kernel), List.mem_of_getElem? (i := 1102) (by decide +kernel), List.mem_of_getElem? (i := 1103) (by decide +kernel)⟩
theorem lw_p36 : lw_okq (⟨"HermitsSpoonModel", "layDay", "(III)V"⟩, 50) := ⟨⟨by decide +kernel, by decide +kernel⟩, List.mem_of_getElem? (i := 840) (by decide +kernel), List.mem_of_getElem? (i := 1106) (by decide +kernel), List.mem_of_getElem? (i := 1107) (by decide +kernel)⟩
theorem lw_p37 : lw_okq (⟨"HermitsSpoonModel", "useVow", "(I)V"⟩, 50) := ⟨⟨by decide +kernel, by decide +kernel⟩, List.mem_of_getElem? (i := 840) (by decide +kernel), List.mem_of_getElem? (i := 1110) (by decide +kernel), List.mem_of_getElem? (i := 1111) (by decide +kernel)⟩
theorem lw_p38 : lw_okq (⟨"HermitsSpoonModel", "useStores", "()V"⟩, 50) := ⟨⟨by decide +kernel, by decide +kernel⟩, List.mem_of_getElem? (i := 840) (by decide +kernel), List.mem_of_getElem? (i := 1114) (by decide +kernel), List.mem_of_getElem? (i := 1115) (by decide +kernel)⟩
theorem lw_p39 : lw_okq (⟨"HermitsSpoonModel", "goDay", "(II)V"⟩, 50) := ⟨⟨by decide +kernel, by decide +kernel⟩, List.mem_of_getElem? (i := 840) (by decide +kernel), List.mem_of_getElem? (i := 1119) (by decide +kernel), List.mem_of_getElem? (i := 1120) (by decide +kernel)⟩
theorem lw_p40 : lw_okq (⟨"HermitsSpoonModel", "beginDay", "()V"⟩, 50) := ⟨⟨by decide +kernel, by decide +kernel⟩, List.mem_of_getElem? (i := 840) (by decide +kernel), List.mem_of_getElem? (i := 1123) (by decide +kernel), List.mem_of_getElem? (i := 1124) (by decide +kernel)⟩
theorem lw_p41 : lw_okq (⟨"HermitsSpoonModel", "isOver", "()Z"⟩, 50) := ⟨⟨by decide +kernel, by decide +kernel⟩, List.mem_of_getElem? (i := 840) (by decide +kernel), List.mem_of_getElem? (i := 1127) (by decide +kernel), List.mem_of_getElem? (i := 1128) (by decide +kernel)⟩
theorem lw_p42 : lw_okq (⟨"HermitsSpoonModel", "soupLeft", "()I"⟩, 50) := ⟨⟨by decide +kernel, by decide +kernel⟩, List.mem_of_getElem? (i := 840) (by decide +kernel), List.mem_of_getElem? (i := 1131) (by decide +kernel), List.mem_of_getElem? (i := 1132) (by decide +kernel)⟩
theorem lw_p43 : lw_okq (⟨"HermitsSpoonModel", "areAllSkipped", "()Z"⟩, 50) := ⟨⟨by decide +kernel, by decide +kernel⟩, List.mem_of_getElem? (i := 840) (by decide +kernel), List.mem_of_getElem? (i := 1135) (by decide +kernel), List.mem_of_getElem? (i := 1136) (by decide +kernel)⟩
theorem lw_p44 : lw_okq (⟨"HermitsSpoonModel", "isSkipped", "(I)Z"⟩, 50) := ⟨⟨by decide +kernel, by decide +kernel⟩, List.mem_of_getElem? (i := 840) (by decide +kernel), List.mem_of_getElem? (i := 1139) (by decide +kernel), List.mem_of_getElem? (i := 1140) (by decide +kernel)⟩
theorem lw_p45 : lw_okq (⟨"HermitsSpoonModel", "stir", "()V"⟩, 50) := ⟨⟨by decide +kernel, by decide +kernel⟩, List.mem_of_getElem? (i := 840) (by decide +kernel), List.mem_of_getElem? (i := 1146) (by decide +kernel), List.mem_of_getElem? (i := 1147) (by decide +kernel)⟩
theorem lw_p46 : lw_okq (⟨"HermitsSpoonModel", "biteTurn", "(I)V"⟩, 50) := ⟨⟨by decide +kernel, by decide +kernel⟩, List.mem_of_getElem? (i := 840) (by decide +kernel), List.mem_of_getElem? (i := 1150) (by decide +kernel), List.mem_of_getElem? (i := 1151) (by decide +kernel)⟩
theorem lw_p47 : lw_okq (⟨"HermitsSpoonModel", "biteOnce", "(I)V"⟩, 50) := ⟨⟨by decide +kernel, by decide +kernel⟩, List.mem_of_getElem? (i := 840) (by decide +kernel), List.mem_of_getElem? (i := 1154) (by decide +kernel), List.mem_of_getElem? (i := 1155) (by decide +kernel)⟩
def lw_privs_3 : List (MethodName × Nat) := [(⟨"HermitsSpoonModel", "isSeat", "(I)Z"⟩, 50), (⟨"HermitsSpoonModel", "exchange", "(II)V"⟩, 50), (⟨"HermitsSpoonModel", "isDay", "(II)Z"⟩, 50), (⟨"HermitsSpoonModel", "areFasts", "(I)Z"⟩, 50), (⟨"HermitsSpoonModel", "layDay", "(III)V"⟩, 50), (⟨"HermitsSpoonModel", "useVow", "(I)V"⟩, 50), (⟨"HermitsSpoonModel", "useStores", "()V"⟩, 50), (⟨"HermitsSpoonModel", "goDay", "(II)V"⟩, 50), (⟨"HermitsSpoonModel", "beginDay", "()V"⟩, 50), (⟨"HermitsSpoonModel", "isOver", "()Z"⟩, 50), (⟨"HermitsSpoonModel", "soupLeft", "()I"⟩, 50), (⟨"HermitsSpoonModel", "areAllSkipped", "()Z"⟩, 50), (⟨"HermitsSpoonModel", "isSkipped", "(I)Z"⟩, 50), (⟨"HermitsSpoonModel", "stir", "()V"⟩, 50), (⟨"HermitsSpoonModel", "biteTurn", "(I)V"⟩, 50), (⟨"HermitsSpoonModel", "biteOnce", "(I)V"⟩, 50)]
theorem lw_r3 : ∀ q ∈ lw_privs_3, lw_okq q := List.forall_mem_cons.mpr ⟨lw_p32, List.forall_mem_cons.mpr ⟨lw_p33, List.forall_mem_cons.mpr ⟨lw_p34, List.forall_mem_cons.mpr ⟨lw_p35, List.forall_mem_cons.mpr ⟨lw_p36, List.forall_mem_cons.mpr ⟨lw_p37, List.forall_mem_cons.mpr ⟨lw_p38, List.forall_mem_cons.mpr ⟨lw_p39, List.forall_mem_cons.mpr ⟨lw_p40, List.forall_mem_cons.mpr ⟨lw_p41, List.forall_mem_cons.mpr ⟨lw_p42, List.forall_mem_cons.mpr ⟨lw_p43, List.forall_mem_cons.mpr ⟨lw_p44, List.forall_mem_cons.mpr ⟨lw_p45, List.forall_mem_cons.mpr ⟨lw_p46, List.forall_mem_cons.mpr ⟨lw_p47, fun _ h => absurd h List.not_mem_nil⟩⟩⟩⟩⟩⟩⟩⟩⟩⟩⟩⟩⟩⟩⟩⟩
theorem lw_p48 : lw_okq (⟨"HermitsSpoonModel", "beatsOf", "(I)I"⟩, 50) := ⟨⟨by decide +kernel, by decide +kernel⟩, List.mem_of_getElem? (i := 840) (by decide +kernel), List.mem_of_getElem? (i := 1158) (by decide +kernel), List.mem_of_getElem? (i := 1159) (by decide +kernel)⟩
theorem lw_p49 : lw_okq (⟨"HermitsSpoonModel", "takeBeats", "(I)V"⟩, 50) := ⟨⟨by decide +kernel, by decide +kernel⟩, List.mem_of_getElem? (i := 840) (by decide +kernel), List.mem_of_getElem? (i := 1162) (by decide +kernel), List.mem_of_getElem? (i := 1163) (by decide +kernel)⟩
theorem lw_p50 : lw_okq (⟨"HermitsSpoonModel", "onward", "(IZ)I"⟩, 50) := ⟨⟨by decide +kernel, by decide +kernel⟩, List.mem_of_getElem? (i := 840) (by decide +kernel), List.mem_of_getElem? (i := 1166) (by decide +kernel), List.mem_of_getElem? (i := 1167) (by decide +kernel)⟩
theorem lw_p51 : lw_okq (⟨"HermitsSpoonModel", "dayNow", "(I)I"⟩, 50) := ⟨⟨by decide +kernel, by decide +kernel⟩, List.mem_of_getElem? (i := 840) (by decide +kernel), List.mem_of_getElem? (i := 1170) (by decide +kernel), List.mem_of_getElem? (i := 1171) (by decide +kernel)⟩
theorem lw_p52 : lw_okq (⟨"HermitsSpoonModel", "leastOf", "(II)I"⟩, 50) := ⟨⟨by decide +kernel, by decide +kernel⟩, List.mem_of_getElem? (i := 840) (by decide +kernel), List.mem_of_getElem? (i := 1186) (by decide +kernel), List.mem_of_getElem? (i := 1187) (by decide +kernel)⟩
theorem lw_p53 : lw_okq (⟨"HermitsSpoonModel", "leastNow", "()I"⟩, 50) := ⟨⟨by decide +kernel, by decide +kernel⟩, List.mem_of_getElem? (i := 840) (by decide +kernel), List.mem_of_getElem? (i := 1190) (by decide +kernel), List.mem_of_getElem? (i := 1191) (by decide +kernel)⟩
theorem lw_p54 : lw_okq (⟨"HermitsSpoonModel", "digestDay", "()I"⟩, 50) := ⟨⟨by decide +kernel, by decide +kernel⟩, List.mem_of_getElem? (i := 840) (by decide +kernel), List.mem_of_getElem? (i := 1211) (by decide +kernel), List.mem_of_getElem? (i := 1212) (by decide +kernel)⟩
theorem lw_p55 : lw_okq (⟨"HermitsSpoonModel", "areFed", "(IIII)Z"⟩, 50) := ⟨⟨by decide +kernel, by decide +kernel⟩, List.mem_of_getElem? (i := 840) (by decide +kernel), List.mem_of_getElem? (i := 1223) (by decide +kernel), List.mem_of_getElem? (i := 1224) (by decide +kernel)⟩
theorem lw_p56 : lw_okq (⟨"HermitsSpoonModel", "sittersFrom", "(II)I"⟩, 50) := ⟨⟨by decide +kernel, by decide +kernel⟩, List.mem_of_getElem? (i := 840) (by decide +kernel), List.mem_of_getElem? (i := 1227) (by decide +kernel), List.mem_of_getElem? (i := 1228) (by decide +kernel)⟩
theorem lw_p57 : lw_okq (⟨"HermitsSpoonModel", "goSchism", "(I)V"⟩, 50) := ⟨⟨by decide +kernel, by decide +kernel⟩, List.mem_of_getElem? (i := 840) (by decide +kernel), List.mem_of_getElem? (i := 1235) (by decide +kernel), List.mem_of_getElem? (i := 1236) (by decide +kernel)⟩
theorem lw_p58 : lw_okq (⟨"HermitsSpoonModel", "passSkipped", "(IZ)I"⟩, 50) := ⟨⟨by decide +kernel, by decide +kernel⟩, List.mem_of_getElem? (i := 840) (by decide +kernel), List.mem_of_getElem? (i := 1239) (by decide +kernel), List.mem_of_getElem? (i := 1240) (by decide +kernel)⟩
theorem lw_p59 : lw_okq (⟨"HermitsSpoonModel", "explains", "(IIIII)Z"⟩, 50) := ⟨⟨by decide +kernel, by decide +kernel⟩, List.mem_of_getElem? (i := 840) (by decide +kernel), List.mem_of_getElem? (i := 1247) (by decide +kernel), List.mem_of_getElem? (i := 1248) (by decide +kernel)⟩
theorem lw_p60 : lw_okq (⟨"HermitsSpoonModel", "howMany", "(I)I"⟩, 50) := ⟨⟨by decide +kernel, by decide +kernel⟩, List.mem_of_getElem? (i := 840) (by decide +kernel), List.mem_of_getElem? (i := 1263) (by decide +kernel), List.mem_of_getElem? (i := 1264) (by decide +kernel)⟩
theorem lw_p61 : lw_okq (⟨"HermitsSpoonModel", "soupAll", "()I"⟩, 50) := ⟨⟨by decide +kernel, by decide +kernel⟩, List.mem_of_getElem? (i := 840) (by decide +kernel), List.mem_of_getElem? (i := 1267) (by decide +kernel), List.mem_of_getElem? (i := 1268) (by decide +kernel)⟩
theorem lw_p62 : lw_okq (⟨"HermitsSpoonModel", "starvedMany", "()I"⟩, 50) := ⟨⟨by decide +kernel, by decide +kernel⟩, List.mem_of_getElem? (i := 840) (by decide +kernel), List.mem_of_getElem? (i := 1271) (by decide +kernel), List.mem_of_getElem? (i := 1272) (by decide +kernel)⟩
theorem lw_p63 : lw_okq (⟨"HermitsSpoonModel", "mix", "(J)V"⟩, 50) := ⟨⟨by decide +kernel, by decide +kernel⟩, List.mem_of_getElem? (i := 840) (by decide +kernel), List.mem_of_getElem? (i := 1280) (by decide +kernel), List.mem_of_getElem? (i := 1281) (by decide +kernel)⟩
def lw_privs_4 : List (MethodName × Nat) := [(⟨"HermitsSpoonModel", "beatsOf", "(I)I"⟩, 50), (⟨"HermitsSpoonModel", "takeBeats", "(I)V"⟩, 50), (⟨"HermitsSpoonModel", "onward", "(IZ)I"⟩, 50), (⟨"HermitsSpoonModel", "dayNow", "(I)I"⟩, 50), (⟨"HermitsSpoonModel", "leastOf", "(II)I"⟩, 50), (⟨"HermitsSpoonModel", "leastNow", "()I"⟩, 50), (⟨"HermitsSpoonModel", "digestDay", "()I"⟩, 50), (⟨"HermitsSpoonModel", "areFed", "(IIII)Z"⟩, 50), (⟨"HermitsSpoonModel", "sittersFrom", "(II)I"⟩, 50), (⟨"HermitsSpoonModel", "goSchism", "(I)V"⟩, 50), (⟨"HermitsSpoonModel", "passSkipped", "(IZ)I"⟩, 50), (⟨"HermitsSpoonModel", "explains", "(IIIII)Z"⟩, 50), (⟨"HermitsSpoonModel", "howMany", "(I)I"⟩, 50), (⟨"HermitsSpoonModel", "soupAll", "()I"⟩, 50), (⟨"HermitsSpoonModel", "starvedMany", "()I"⟩, 50), (⟨"HermitsSpoonModel", "mix", "(J)V"⟩, 50)]
theorem lw_r4 : ∀ q ∈ lw_privs_4, lw_okq q := List.forall_mem_cons.mpr ⟨lw_p48, List.forall_mem_cons.mpr ⟨lw_p49, List.forall_mem_cons.mpr ⟨lw_p50, List.forall_mem_cons.mpr ⟨lw_p51, List.forall_mem_cons.mpr ⟨lw_p52, List.forall_mem_cons.mpr ⟨lw_p53, List.forall_mem_cons.mpr ⟨lw_p54, List.forall_mem_cons.mpr ⟨lw_p55, List.forall_mem_cons.mpr ⟨lw_p56, List.forall_mem_cons.mpr ⟨lw_p57, List.forall_mem_cons.mpr ⟨lw_p58, List.forall_mem_cons.mpr ⟨lw_p59, List.forall_mem_cons.mpr ⟨lw_p60, List.forall_mem_cons.mpr ⟨lw_p61, List.forall_mem_cons.mpr ⟨lw_p62, List.forall_mem_cons.mpr ⟨lw_p63, fun _ h => absurd h List.not_mem_nil⟩⟩⟩⟩⟩⟩⟩⟩⟩⟩⟩⟩⟩⟩⟩⟩
theorem lw_p64 : lw_okq (⟨"HermitsSpoonModel", "mixVow", "(I)V"⟩, 50) := ⟨⟨by decide +kernel, by decide +kernel⟩, List.mem_of_getElem? (i := 840) (by decide +kernel), List.mem_of_getElem? (i := 1285) (by decide +kernel), List.mem_of_getElem? (i := 1286) (by decide +kernel)⟩
def lw_privs_5 : List (MethodName × Nat) := [(⟨"HermitsSpoonModel", "mixVow", "(I)V"⟩, 50)]
theorem lw_r5 : ∀ q ∈ lw_privs_5, lw_okq q := List.forall_mem_cons.mpr ⟨lw_p64, fun _ h => absurd h List.not_mem_nil⟩
def lw_privs : List (MethodName × Nat) := lw_privs_1 ++ (lw_privs_2 ++ (lw_privs_3 ++ (lw_privs_4 ++ (lw_privs_5))))
def lw_tbl : List Cond := k2_sels lw_privs ++ tables_1
theorem lw_privs_ok : ∀ q ∈ lw_privs, lw_okq q := by
  show ∀ q ∈ lw_privs_1 ++ (lw_privs_2 ++ (lw_privs_3 ++ (lw_privs_4 ++ (lw_privs_5)))), lw_okq q
  exact List.forall_mem_append.mpr ⟨lw_r1, List.forall_mem_append.mpr ⟨lw_r2, List.forall_mem_append.mpr ⟨lw_r3, List.forall_mem_append.mpr ⟨lw_r4, lw_r5⟩⟩⟩⟩
end
section
def RX0 : String := "HermitsSpoon$Council"
def TX0 : u_T := fun k => match k with
  | 0 => ("HermitsSpoon$Council", "sitting", "LHermitsSpoon$Sitting;", true)
  | 1 => ("HermitsSpoon$Council", "trial", "LHermitsSpoon$Table;", true)
  | _ => ("HermitsSpoon$Council", "mealsOfRound", "[[I", true)
def tyX0 : Nat → FieldType := fun k => match k with
  | 0 => .object "HermitsSpoon$Sitting"
  | 1 => .object "HermitsSpoon$Table"
  | _ => .array (.array .int)
theorem nmX0 : ∀ a, a < 3 → ∀ b, b < 3 → a ≠ b → (TX0 a).2.1 ≠ (TX0 b).2.1 := by decide +kernel
theorem tyX0_ok : ∀ k, k < 3 → parseFieldDescriptor (TX0 k).2.2.1 = some (tyX0 k) := by decide +kernel
abbrev cX0_init : ByteArray := prog_2_method_1_code
def yX0_init : MethodName := ⟨RX0, "<init>", "(LHermitsSpoon$Sitting;LHermitsSpoon$Table;)V"⟩
abbrev cX0_startAdvised : ByteArray := prog_2_method_2_code
def yX0_startAdvised : MethodName := ⟨RX0, "startAdvised", "(LHermitsSpoon$Table;LHermitsSpoon$Vow;)I"⟩
abbrev cX0_swapAdvised : ByteArray := prog_2_method_3_code
def yX0_swapAdvised : MethodName := ⟨RX0, "swapAdvised", "(LHermitsSpoon$Table;LHermitsSpoon$Vow;I)I"⟩
abbrev cX0_stirAdvised : ByteArray := prog_2_method_4_code
def yX0_stirAdvised : MethodName := ⟨RX0, "stirAdvised", "(LHermitsSpoon$Table;LHermitsSpoon$Vow;I)I"⟩
abbrev cX0_dayOfLoss : ByteArray := prog_2_method_5_code
def yX0_dayOfLoss : MethodName := ⟨RX0, "dayOfLoss", "(LHermitsSpoon$Table;LHermitsSpoon$Vow;IIII)I"⟩
abbrev cX0_fastersOf : ByteArray := prog_2_method_6_code
def yX0_fastersOf : MethodName := ⟨RX0, "fastersOf", "(II)I"⟩
def RX1 : String := "HermitsSpoon$Deaf"
def TX1 : u_T := fun k => match k with
  | 0 => ("HermitsSpoon$Hermit", "n", "I", true)
  | 1 => ("HermitsSpoon$Hermit", "need", "I", true)
  | 2 => ("HermitsSpoon$Hermit", "teeth", "I", true)
  | _ => ("HermitsSpoon$Hermit", "biteSize", "I", true)
def tyX1 : Nat → FieldType := fun k => match k with
  | 0 => .int
  | 1 => .int
  | 2 => .int
  | _ => .int
theorem nmX1 : ∀ a, a < 4 → ∀ b, b < 4 → a ≠ b → (TX1 a).2.1 ≠ (TX1 b).2.1 := by decide +kernel
theorem tyX1_ok : ∀ k, k < 4 → parseFieldDescriptor (TX1 k).2.2.1 = some (tyX1 k) := by decide +kernel
abbrev cX1_init : ByteArray := prog_3_method_1_code
def yX1_init : MethodName := ⟨RX1, "<init>", "(III)V"⟩
abbrev cX1_kindNumber : ByteArray := prog_3_method_2_code
def yX1_kindNumber : MethodName := ⟨RX1, "kindNumber", "()I"⟩
def RX2 : String := "HermitsSpoon$Feeder"
def TX2 : u_T := fun k => match k with
  | 0 => ("HermitsSpoon$Hermit", "n", "I", true)
  | 1 => ("HermitsSpoon$Hermit", "need", "I", true)
  | 2 => ("HermitsSpoon$Hermit", "teeth", "I", true)
  | _ => ("HermitsSpoon$Hermit", "biteSize", "I", true)
def tyX2 : Nat → FieldType := fun k => match k with
  | 0 => .int
  | 1 => .int
  | 2 => .int
  | _ => .int
theorem nmX2 : ∀ a, a < 4 → ∀ b, b < 4 → a ≠ b → (TX2 a).2.1 ≠ (TX2 b).2.1 := by decide +kernel
theorem tyX2_ok : ∀ k, k < 4 → parseFieldDescriptor (TX2 k).2.2.1 = some (tyX2 k) := by decide +kernel
abbrev cX2_init : ByteArray := prog_4_method_1_code
def yX2_init : MethodName := ⟨RX2, "<init>", "(IIII)V"⟩
abbrev cX2_kindNumber : ByteArray := prog_4_method_2_code
def yX2_kindNumber : MethodName := ⟨RX2, "kindNumber", "()I"⟩
abbrev cX2_givesAway : ByteArray := prog_4_method_3_code
def yX2_givesAway : MethodName := ⟨RX2, "givesAway", "(I)Z"⟩
def RX3 : String := "HermitsSpoon$Greedy"
def TX3 : u_T := fun k => match k with
  | 0 => ("HermitsSpoon$Hermit", "n", "I", true)
  | 1 => ("HermitsSpoon$Hermit", "need", "I", true)
  | 2 => ("HermitsSpoon$Hermit", "teeth", "I", true)
  | _ => ("HermitsSpoon$Hermit", "biteSize", "I", true)
def tyX3 : Nat → FieldType := fun k => match k with
  | 0 => .int
  | 1 => .int
  | 2 => .int
  | _ => .int
theorem nmX3 : ∀ a, a < 4 → ∀ b, b < 4 → a ≠ b → (TX3 a).2.1 ≠ (TX3 b).2.1 := by decide +kernel
theorem tyX3_ok : ∀ k, k < 4 → parseFieldDescriptor (TX3 k).2.2.1 = some (tyX3 k) := by decide +kernel
abbrev cX3_init : ByteArray := prog_5_method_1_code
def yX3_init : MethodName := ⟨RX3, "<init>", "(IIII)V"⟩
abbrev cX3_kindNumber : ByteArray := prog_5_method_2_code
def yX3_kindNumber : MethodName := ⟨RX3, "kindNumber", "()I"⟩
abbrev cX3_bitesInTurn : ByteArray := prog_5_method_3_code
def yX3_bitesInTurn : MethodName := ⟨RX3, "bitesInTurn", "(I)I"⟩
def RX4 : String := "HermitsSpoon$Hermit"
def TX4 : u_T := fun k => match k with
  | 0 => ("HermitsSpoon$Hermit", "n", "I", true)
  | 1 => ("HermitsSpoon$Hermit", "need", "I", true)
  | 2 => ("HermitsSpoon$Hermit", "teeth", "I", true)
  | _ => ("HermitsSpoon$Hermit", "biteSize", "I", true)
def tyX4 : Nat → FieldType := fun k => match k with
  | 0 => .int
  | 1 => .int
  | 2 => .int
  | _ => .int
theorem nmX4 : ∀ a, a < 4 → ∀ b, b < 4 → a ≠ b → (TX4 a).2.1 ≠ (TX4 b).2.1 := by decide +kernel
theorem tyX4_ok : ∀ k, k < 4 → parseFieldDescriptor (TX4 k).2.2.1 = some (tyX4 k) := by decide +kernel
abbrev cX4_init : ByteArray := prog_6_method_1_code
def yX4_init : MethodName := ⟨RX4, "<init>", "(IIII)V"⟩
abbrev cX4_kindNumber : ByteArray := prog_6_method_2_code
def yX4_kindNumber : MethodName := ⟨RX4, "kindNumber", "()I"⟩
abbrev cX4_isOfKind : ByteArray := prog_6_method_3_code
def yX4_isOfKind : MethodName := ⟨RX4, "isOfKind", "(I)Z"⟩
abbrev cX4_beatsOfTurn : ByteArray := prog_6_method_4_code
def yX4_beatsOfTurn : MethodName := ⟨RX4, "beatsOfTurn", "()I"⟩
abbrev cX4_bitesInTurn : ByteArray := prog_6_method_5_code
def yX4_bitesInTurn : MethodName := ⟨RX4, "bitesInTurn", "(I)I"⟩
abbrev cX4_givesAway : ByteArray := prog_6_method_6_code
def yX4_givesAway : MethodName := ⟨RX4, "givesAway", "(I)Z"⟩
abbrev cX4_isNth : ByteArray := prog_6_method_7_code
def yX4_isNth : MethodName := ⟨RX4, "isNth", "(I)Z"⟩
def RX5 : String := "HermitsSpoon$Page"
def TX5 : u_T := fun k => match k with
  | 0 => ("HermitsSpoon$Page", "signs", "[I", true)
  | 1 => ("HermitsSpoon$Page", "length", "I", false)
  | 2 => ("HermitsSpoon$Page", "place", "I", false)
  | 3 => ("HermitsSpoon$Page", "isVow", "Z", false)
  | 4 => ("HermitsSpoon$Page", "goesToNext", "Z", false)
  | 5 => ("HermitsSpoon$Page", "turns", "I", false)
  | 6 => ("HermitsSpoon$Page", "skipsDeaf", "Z", false)
  | _ => ("HermitsSpoon$Page", "most", "I", false)
def tyX5 : Nat → FieldType := fun k => match k with
  | 0 => .array .int
  | 1 => .int
  | 2 => .int
  | 3 => .boolean
  | 4 => .boolean
  | 5 => .int
  | 6 => .boolean
  | _ => .int
theorem nmX5 : ∀ a, a < 8 → ∀ b, b < 8 → a ≠ b → (TX5 a).2.1 ≠ (TX5 b).2.1 := by decide +kernel
theorem tyX5_ok : ∀ k, k < 8 → parseFieldDescriptor (TX5 k).2.2.1 = some (tyX5 k) := by decide +kernel
abbrev cX5_init : ByteArray := prog_7_method_1_code
def yX5_init : MethodName := ⟨RX5, "<init>", "()V"⟩
abbrev cX5_lettersIn : ByteArray := prog_7_method_2_code
def yX5_lettersIn : MethodName := ⟨RX5, "lettersIn", "(J)I"⟩
abbrev cX5_write : ByteArray := prog_7_method_3_code
def yX5_write : MethodName := ⟨RX5, "write", "(JI)V"⟩
abbrev cX5_read : ByteArray := prog_7_method_4_code
def yX5_read : MethodName := ⟨RX5, "read", "()V"⟩
abbrev cX5_comes : ByteArray := prog_7_method_5_code
def yX5_comes : MethodName := ⟨RX5, "comes", "(C)Z"⟩
abbrev cX5_digit : ByteArray := prog_7_method_6_code
def yX5_digit : MethodName := ⟨RX5, "digit", "()I"⟩
def RX6 : String := "HermitsSpoon$Sitting"
def TX6 : u_T := fun k => match k with
  | 0 => ("HermitsSpoon$Sitting", "table", "LHermitsSpoon$Table;", false)
  | 1 => ("HermitsSpoon$Sitting", "layers", "[I", true)
  | 2 => ("HermitsSpoon$Sitting", "heat", "I", false)
  | 3 => ("HermitsSpoon$Sitting", "left", "I", false)
  | 4 => ("HermitsSpoon$Sitting", "turns", "I", false)
  | 5 => ("HermitsSpoon$Sitting", "beats", "I", false)
  | 6 => ("HermitsSpoon$Sitting", "bites", "I", false)
  | 7 => ("HermitsSpoon$Sitting", "worth", "I", false)
  | 8 => ("HermitsSpoon$Sitting", "meals", "[I", true)
  | 9 => ("HermitsSpoon$Sitting", "bitesBy", "[I", true)
  | 10 => ("HermitsSpoon$Sitting", "bitingTurns", "[I", true)
  | 11 => ("HermitsSpoon$Sitting", "twiceTaker", "I", false)
  | 12 => ("HermitsSpoon$Sitting", "watched", "I", false)
  | _ => ("HermitsSpoon$Sitting", "seen", "[I", true)
def tyX6 : Nat → FieldType := fun k => match k with
  | 0 => .object "HermitsSpoon$Table"
  | 1 => .array .int
  | 2 => .int
  | 3 => .int
  | 4 => .int
  | 5 => .int
  | 6 => .int
  | 7 => .int
  | 8 => .array .int
  | 9 => .array .int
  | 10 => .array .int
  | 11 => .int
  | 12 => .int
  | _ => .array .int
theorem nmX6 : ∀ a, a < 14 → ∀ b, b < 14 → a ≠ b → (TX6 a).2.1 ≠ (TX6 b).2.1 := by decide +kernel
theorem tyX6_ok : ∀ k, k < 14 → parseFieldDescriptor (TX6 k).2.2.1 = some (tyX6 k) := by decide +kernel
abbrev cX6_init : ByteArray := prog_8_method_1_code
def yX6_init : MethodName := ⟨RX6, "<init>", "(LHermitsSpoon$Table;)V"⟩
abbrev cX6_begin : ByteArray := prog_8_method_2_code
def yX6_begin : MethodName := ⟨RX6, "begin", "(LHermitsSpoon$Table;)V"⟩
abbrev cX6_wholeDay : ByteArray := prog_8_method_3_code
def yX6_wholeDay : MethodName := ⟨RX6, "wholeDay", "(LHermitsSpoon$Table;LHermitsSpoon$Vow;II)V"⟩
abbrev cX6_leastOf : ByteArray := prog_8_method_4_code
def yX6_leastOf : MethodName := ⟨RX6, "leastOf", "(LHermitsSpoon$Table;LHermitsSpoon$Vow;II)I"⟩
abbrev cX6_goRound : ByteArray := prog_8_method_5_code
def yX6_goRound : MethodName := ⟨RX6, "goRound", "(LHermitsSpoon$Vow;IIII)V"⟩
abbrev cX6_goBothWays : ByteArray := prog_8_method_6_code
def yX6_goBothWays : MethodName := ⟨RX6, "goBothWays", "(I)V"⟩
abbrev cX6_told : ByteArray := prog_8_method_7_code
def yX6_told : MethodName := ⟨RX6, "told", "(I)I"⟩
abbrev cX6_leastSurplus : ByteArray := prog_8_method_8_code
def yX6_leastSurplus : MethodName := ⟨RX6, "leastSurplus", "()I"⟩
abbrev cX6_isOver : ByteArray := prog_8_method_9_code
def yX6_isOver : MethodName := ⟨RX6, "isOver", "()Z"⟩
abbrev cX6_seatServed : ByteArray := prog_8_method_10_code
def yX6_seatServed : MethodName := ⟨RX6, "seatServed", "(LHermitsSpoon$Vow;II)I"⟩
abbrev cX6_isSkipped : ByteArray := prog_8_method_11_code
def yX6_isSkipped : MethodName := ⟨RX6, "isSkipped", "(LHermitsSpoon$Vow;II)Z"⟩
abbrev cX6_seatAlive : ByteArray := prog_8_method_12_code
def yX6_seatAlive : MethodName := ⟨RX6, "seatAlive", "(IZ)I"⟩
abbrev cX6_stir : ByteArray := prog_8_method_13_code
def yX6_stir : MethodName := ⟨RX6, "stir", "()V"⟩
abbrev cX6_passTime : ByteArray := prog_8_method_14_code
def yX6_passTime : MethodName := ⟨RX6, "passTime", "(I)V"⟩
abbrev cX6_eat : ByteArray := prog_8_method_15_code
def yX6_eat : MethodName := ⟨RX6, "eat", "(I)V"⟩
abbrev cX6_takeBite : ByteArray := prog_8_method_16_code
def yX6_takeBite : MethodName := ⟨RX6, "takeBite", "(II)V"⟩
abbrev cX6_firstLayer : ByteArray := prog_8_method_17_code
def yX6_firstLayer : MethodName := ⟨RX6, "firstLayer", "()I"⟩
abbrev cX6_worthOf : ByteArray := prog_8_method_18_code
def yX6_worthOf : MethodName := ⟨RX6, "worthOf", "(III)I"⟩
abbrev cX6_look : ByteArray := prog_8_method_19_code
def yX6_look : MethodName := ⟨RX6, "look", "(IIIII)V"⟩
def RX7 : String := "HermitsSpoon$Slow"
def TX7 : u_T := fun k => match k with
  | 0 => ("HermitsSpoon$Hermit", "n", "I", true)
  | 1 => ("HermitsSpoon$Hermit", "need", "I", true)
  | 2 => ("HermitsSpoon$Hermit", "teeth", "I", true)
  | _ => ("HermitsSpoon$Hermit", "biteSize", "I", true)
def tyX7 : Nat → FieldType := fun k => match k with
  | 0 => .int
  | 1 => .int
  | 2 => .int
  | _ => .int
theorem nmX7 : ∀ a, a < 4 → ∀ b, b < 4 → a ≠ b → (TX7 a).2.1 ≠ (TX7 b).2.1 := by decide +kernel
theorem tyX7_ok : ∀ k, k < 4 → parseFieldDescriptor (TX7 k).2.2.1 = some (tyX7 k) := by decide +kernel
abbrev cX7_init : ByteArray := prog_9_method_1_code
def yX7_init : MethodName := ⟨RX7, "<init>", "(IIII)V"⟩
abbrev cX7_kindNumber : ByteArray := prog_9_method_2_code
def yX7_kindNumber : MethodName := ⟨RX7, "kindNumber", "()I"⟩
abbrev cX7_beatsOfTurn : ByteArray := prog_9_method_3_code
def yX7_beatsOfTurn : MethodName := ⟨RX7, "beatsOfTurn", "()I"⟩
def RX8 : String := "HermitsSpoon$Table"
def TX8 : u_T := fun k => match k with
  | 0 => ("HermitsSpoon$Table", "hermits", "Ljava/util/ArrayList;", true)
  | 1 => ("HermitsSpoon$Table", "stores", "[I", true)
  | 2 => ("HermitsSpoon$Table", "sitters", "[I", true)
  | 3 => ("HermitsSpoon$Table", "layers", "[I", true)
  | 4 => ("HermitsSpoon$Table", "heat", "I", false)
  | _ => ("HermitsSpoon$Table", "isFeast", "Z", false)
def tyX8 : Nat → FieldType := fun k => match k with
  | 0 => .object "java/util/ArrayList"
  | 1 => .array .int
  | 2 => .array .int
  | 3 => .array .int
  | 4 => .int
  | _ => .boolean
theorem nmX8 : ∀ a, a < 6 → ∀ b, b < 6 → a ≠ b → (TX8 a).2.1 ≠ (TX8 b).2.1 := by decide +kernel
theorem tyX8_ok : ∀ k, k < 6 → parseFieldDescriptor (TX8 k).2.2.1 = some (tyX8 k) := by decide +kernel
abbrev cX8_init : ByteArray := prog_10_method_1_code
def yX8_init : MethodName := ⟨RX8, "<init>", "(Ljava/util/ArrayList;)V"⟩
abbrev cX8_becomeLike : ByteArray := prog_10_method_2_code
def yX8_becomeLike : MethodName := ⟨RX8, "becomeLike", "(LHermitsSpoon$Table;I)V"⟩
abbrev cX8_exchange : ByteArray := prog_10_method_3_code
def yX8_exchange : MethodName := ⟨RX8, "exchange", "(II)V"⟩
abbrev cX8_seatOf : ByteArray := prog_10_method_4_code
def yX8_seatOf : MethodName := ⟨RX8, "seatOf", "(I)I"⟩
abbrev cX8_hermitIn : ByteArray := prog_10_method_5_code
def yX8_hermitIn : MethodName := ⟨RX8, "hermitIn", "(I)LHermitsSpoon$Hermit;"⟩
abbrev cX8_seatNext : ByteArray := prog_10_method_6_code
def yX8_seatNext : MethodName := ⟨RX8, "seatNext", "(I)I"⟩
abbrev cX8_seatBeside : ByteArray := prog_10_method_7_code
def yX8_seatBeside : MethodName := ⟨RX8, "seatBeside", "(IZ)I"⟩
abbrev cX8_isStarved : ByteArray := prog_10_method_8_code
def yX8_isStarved : MethodName := ⟨RX8, "isStarved", "(I)Z"⟩
abbrev cX8_soupInAll : ByteArray := prog_10_method_9_code
def yX8_soupInAll : MethodName := ⟨RX8, "soupInAll", "()I"⟩
abbrev cX8_starvedInAll : ByteArray := prog_10_method_10_code
def yX8_starvedInAll : MethodName := ⟨RX8, "starvedInAll", "()I"⟩
abbrev cX8_endDay : ByteArray := prog_10_method_11_code
def yX8_endDay : MethodName := ⟨RX8, "endDay", "([I)I"⟩
def RX9 : String := "HermitsSpoon$Vow"
def TX9 : u_T := fun k => match k with
  | 0 => ("HermitsSpoon$Vow", "goesToNext", "Z", true)
  | 1 => ("HermitsSpoon$Vow", "turns", "I", true)
  | 2 => ("HermitsSpoon$Vow", "skipsDeaf", "Z", true)
  | _ => ("HermitsSpoon$Vow", "most", "I", true)
def tyX9 : Nat → FieldType := fun k => match k with
  | 0 => .boolean
  | 1 => .int
  | 2 => .boolean
  | _ => .int
theorem nmX9 : ∀ a, a < 4 → ∀ b, b < 4 → a ≠ b → (TX9 a).2.1 ≠ (TX9 b).2.1 := by decide +kernel
theorem tyX9_ok : ∀ k, k < 4 → parseFieldDescriptor (TX9 k).2.2.1 = some (tyX9 k) := by decide +kernel
abbrev cX9_init : ByteArray := prog_11_method_1_code
def yX9_init : MethodName := ⟨RX9, "<init>", "(LHermitsSpoon$Page;)V"⟩
abbrev cX9_told : ByteArray := prog_11_method_2_code
def yX9_told : MethodName := ⟨RX9, "told", "(I)I"⟩
def RX10 : String := "HermitsSpoon"
def TX10 : u_T := fun k => match k with
  | 0 => ("HermitsSpoon", "hermits", "Ljava/util/ArrayList;", true)
  | 1 => ("HermitsSpoon", "vows", "Ljava/util/ArrayList;", true)
  | 2 => ("HermitsSpoon", "page", "LHermitsSpoon$Page;", true)
  | 3 => ("HermitsSpoon", "table", "LHermitsSpoon$Table;", true)
  | 4 => ("HermitsSpoon", "kept", "LHermitsSpoon$Table;", true)
  | 5 => ("HermitsSpoon", "keptSeats", "I", false)
  | 6 => ("HermitsSpoon", "sitting", "LHermitsSpoon$Sitting;", true)
  | _ => ("HermitsSpoon", "council", "LHermitsSpoon$Council;", true)
def tyX10 : Nat → FieldType := fun k => match k with
  | 0 => .object "java/util/ArrayList"
  | 1 => .object "java/util/ArrayList"
  | 2 => .object "HermitsSpoon$Page"
  | 3 => .object "HermitsSpoon$Table"
  | 4 => .object "HermitsSpoon$Table"
  | 5 => .int
  | 6 => .object "HermitsSpoon$Sitting"
  | _ => .object "HermitsSpoon$Council"
theorem nmX10 : ∀ a, a < 8 → ∀ b, b < 8 → a ≠ b → (TX10 a).2.1 ≠ (TX10 b).2.1 := by decide +kernel
theorem tyX10_ok : ∀ k, k < 8 → parseFieldDescriptor (TX10 k).2.2.1 = some (tyX10 k) := by decide +kernel
abbrev cX10_init : ByteArray := prog_1_method_1_code
def yX10_init : MethodName := ⟨RX10, "<init>", "()V"⟩
abbrev cX10_letters : ByteArray := prog_1_method_2_code
def yX10_letters : MethodName := ⟨RX10, "letters", "(J)I"⟩
abbrev cX10_blank : ByteArray := prog_1_method_3_code
def yX10_blank : MethodName := ⟨RX10, "blank", "()I"⟩
abbrev cX10_fault : ByteArray := prog_1_method_4_code
def yX10_fault : MethodName := ⟨RX10, "fault", "()I"⟩
abbrev cX10_vow : ByteArray := prog_1_method_5_code
def yX10_vow : MethodName := ⟨RX10, "vow", "()I"⟩
abbrev cX10_vowTold : ByteArray := prog_1_method_6_code
def yX10_vowTold : MethodName := ⟨RX10, "vowTold", "(II)I"⟩
abbrev cX10_hermit : ByteArray := prog_1_method_7_code
def yX10_hermit : MethodName := ⟨RX10, "hermit", "(IIIIII)I"⟩
abbrev cX10_as : ByteArray := prog_1_method_8_code
def yX10_as : MethodName := ⟨RX10, "as", "(II)I"⟩
abbrev cX10_about : ByteArray := prog_1_method_9_code
def yX10_about : MethodName := ⟨RX10, "about", "(II)I"⟩
abbrev cX10_store : ByteArray := prog_1_method_10_code
def yX10_store : MethodName := ⟨RX10, "store", "(II)I"⟩
abbrev cX10_change : ByteArray := prog_1_method_11_code
def yX10_change : MethodName := ⟨RX10, "change", "(II)I"⟩
abbrev cX10_soup : ByteArray := prog_1_method_12_code
def yX10_soup : MethodName := ⟨RX10, "soup", "(II)I"⟩
abbrev cX10_heat : ByteArray := prog_1_method_13_code
def yX10_heat : MethodName := ⟨RX10, "heat", "(I)I"⟩
abbrev cX10_feast : ByteArray := prog_1_method_14_code
def yX10_feast : MethodName := ⟨RX10, "feast", "(Z)I"⟩
abbrev cX10_day : ByteArray := prog_1_method_15_code
def yX10_day : MethodName := ⟨RX10, "day", "(IIII)I"⟩
abbrev cX10_meal : ByteArray := prog_1_method_16_code
def yX10_meal : MethodName := ⟨RX10, "meal", "(IIII)I"⟩
abbrev cX10_bite : ByteArray := prog_1_method_17_code
def yX10_bite : MethodName := ⟨RX10, "bite", "(IIIII)I"⟩
abbrev cX10_least : ByteArray := prog_1_method_18_code
def yX10_least : MethodName := ⟨RX10, "least", "(II)I"⟩
abbrev cX10_bestStart : ByteArray := prog_1_method_19_code
def yX10_bestStart : MethodName := ⟨RX10, "bestStart", "(I)I"⟩
abbrev cX10_bestSwap : ByteArray := prog_1_method_20_code
def yX10_bestSwap : MethodName := ⟨RX10, "bestSwap", "(II)I"⟩
abbrev cX10_bestStir : ByteArray := prog_1_method_21_code
def yX10_bestStir : MethodName := ⟨RX10, "bestStir", "(II)I"⟩
abbrev cX10_live : ByteArray := prog_1_method_22_code
def yX10_live : MethodName := ⟨RX10, "live", "(III)I"⟩
abbrev cX10_starves : ByteArray := prog_1_method_23_code
def yX10_starves : MethodName := ⟨RX10, "starves", "(III)I"⟩
abbrev cX10_fasting : ByteArray := prog_1_method_24_code
def yX10_fasting : MethodName := ⟨RX10, "fasting", "(III)I"⟩
abbrev cX10_schism : ByteArray := prog_1_method_25_code
def yX10_schism : MethodName := ⟨RX10, "schism", "(II)I"⟩
abbrev cX10_twice : ByteArray := prog_1_method_26_code
def yX10_twice : MethodName := ⟨RX10, "twice", "(IIII)I"⟩
abbrev cX10_image : ByteArray := prog_1_method_27_code
def yX10_image : MethodName := ⟨RX10, "image", "()I"⟩
abbrev cX10_restore : ByteArray := prog_1_method_28_code
def yX10_restore : MethodName := ⟨RX10, "restore", "()I"⟩
abbrev cX10_count : ByteArray := prog_1_method_29_code
def yX10_count : MethodName := ⟨RX10, "count", "(I)I"⟩
abbrev cX10_digest : ByteArray := prog_1_method_30_code
def yX10_digest : MethodName := ⟨RX10, "digest", "()J"⟩
abbrev cX10_isWithin : ByteArray := prog_1_method_31_code
def yX10_isWithin : MethodName := ⟨RX10, "isWithin", "(III)Z"⟩
abbrev cX10_asNumber : ByteArray := prog_1_method_32_code
def yX10_asNumber : MethodName := ⟨RX10, "asNumber", "(Z)I"⟩
abbrev cX10_leastNumber : ByteArray := prog_1_method_33_code
def yX10_leastNumber : MethodName := ⟨RX10, "leastNumber", "(I)I"⟩
abbrev cX10_mostNumber : ByteArray := prog_1_method_34_code
def yX10_mostNumber : MethodName := ⟨RX10, "mostNumber", "(I)I"⟩
abbrev cX10_newcomer : ByteArray := prog_1_method_35_code
def yX10_newcomer : MethodName := ⟨RX10, "newcomer", "(IIIII)LHermitsSpoon$Hermit;"⟩
abbrev cX10_isHermit : ByteArray := prog_1_method_36_code
def yX10_isHermit : MethodName := ⟨RX10, "isHermit", "(I)Z"⟩
abbrev cX10_isSeat : ByteArray := prog_1_method_37_code
def yX10_isSeat : MethodName := ⟨RX10, "isSeat", "(I)Z"⟩
abbrev cX10_areFasts : ByteArray := prog_1_method_38_code
def yX10_areFasts : MethodName := ⟨RX10, "areFasts", "(I)Z"⟩
abbrev cX10_vowNumbered : ByteArray := prog_1_method_39_code
def yX10_vowNumbered : MethodName := ⟨RX10, "vowNumbered", "(I)LHermitsSpoon$Vow;"⟩
abbrev cX10_toldOf : ByteArray := prog_1_method_40_code
def yX10_toldOf : MethodName := ⟨RX10, "toldOf", "(II)I"⟩
abbrev cX10_counted : ByteArray := prog_1_method_41_code
def yX10_counted : MethodName := ⟨RX10, "counted", "(I)I"⟩
abbrev cX10_leftIf : ByteArray := prog_1_method_42_code
def yX10_leftIf : MethodName := ⟨RX10, "leftIf", "(ILHermitsSpoon$Vow;II)I"⟩
abbrev cX10_vowDigested : ByteArray := prog_1_method_43_code
def yX10_vowDigested : MethodName := ⟨RX10, "vowDigested", "(JLHermitsSpoon$Vow;)J"⟩
def RX11 : String := "HermitsSpoonModel"
def TX11 : u_T := fun k => match k with
  | 0 => ("HermitsSpoonModel", "hermits", "I", false)
  | 1 => ("HermitsSpoonModel", "kindOf", "[I", true)
  | 2 => ("HermitsSpoonModel", "numberOf", "[I", true)
  | 3 => ("HermitsSpoonModel", "needOf", "[I", true)
  | 4 => ("HermitsSpoonModel", "teethOf", "[I", true)
  | 5 => ("HermitsSpoonModel", "biteOf", "[I", true)
  | 6 => ("HermitsSpoonModel", "storeOf", "[I", true)
  | 7 => ("HermitsSpoonModel", "seatOf", "[I", true)
  | 8 => ("HermitsSpoonModel", "sitter", "[I", true)
  | 9 => ("HermitsSpoonModel", "layer", "[I", true)
  | 10 => ("HermitsSpoonModel", "heatNow", "I", false)
  | 11 => ("HermitsSpoonModel", "isFeast", "Z", false)
  | 12 => ("HermitsSpoonModel", "vows", "I", false)
  | 13 => ("HermitsSpoonModel", "isNext", "[Z", true)
  | 14 => ("HermitsSpoonModel", "stirOf", "[I", true)
  | 15 => ("HermitsSpoonModel", "skipsDeaf", "[Z", true)
  | 16 => ("HermitsSpoonModel", "mostOf", "[I", true)
  | 17 => ("HermitsSpoonModel", "pageLength", "I", false)
  | 18 => ("HermitsSpoonModel", "page", "[B", true)
  | 19 => ("HermitsSpoonModel", "isKept", "Z", false)
  | 20 => ("HermitsSpoonModel", "keptHermits", "I", false)
  | 21 => ("HermitsSpoonModel", "keptHeat", "I", false)
  | 22 => ("HermitsSpoonModel", "keptFeast", "Z", false)
  | 23 => ("HermitsSpoonModel", "keptStore", "[I", true)
  | 24 => ("HermitsSpoonModel", "keptSeat", "[I", true)
  | 25 => ("HermitsSpoonModel", "keptLayer", "[I", true)
  | 26 => ("HermitsSpoonModel", "faultAt", "I", false)
  | 27 => ("HermitsSpoonModel", "isWhole", "Z", false)
  | 28 => ("HermitsSpoonModel", "newNext", "Z", false)
  | 29 => ("HermitsSpoonModel", "newStir", "I", false)
  | 30 => ("HermitsSpoonModel", "newDeaf", "Z", false)
  | 31 => ("HermitsSpoonModel", "newMost", "I", false)
  | 32 => ("HermitsSpoonModel", "goesNext", "Z", false)
  | 33 => ("HermitsSpoonModel", "stirs", "I", false)
  | 34 => ("HermitsSpoonModel", "deafOut", "Z", false)
  | 35 => ("HermitsSpoonModel", "mostBites", "I", false)
  | 36 => ("HermitsSpoonModel", "fasting", "I", false)
  | 37 => ("HermitsSpoonModel", "thief", "I", false)
  | 38 => ("HermitsSpoonModel", "stores", "[I", true)
  | 39 => ("HermitsSpoonModel", "soupNow", "[I", true)
  | 40 => ("HermitsSpoonModel", "heatThen", "I", false)
  | 41 => ("HermitsSpoonModel", "turnsNow", "I", false)
  | 42 => ("HermitsSpoonModel", "beatsNow", "I", false)
  | 43 => ("HermitsSpoonModel", "bitesNow", "I", false)
  | 44 => ("HermitsSpoonModel", "worthNow", "I", false)
  | 45 => ("HermitsSpoonModel", "meals", "[I", true)
  | 46 => ("HermitsSpoonModel", "bitten", "[I", true)
  | 47 => ("HermitsSpoonModel", "bitingTurns", "[I", true)
  | 48 => ("HermitsSpoonModel", "biteLog", "[I", true)
  | _ => ("HermitsSpoonModel", "h", "J", false)
def tyX11 : Nat → FieldType := fun k => match k with
  | 0 => .int
  | 1 => .array .int
  | 2 => .array .int
  | 3 => .array .int
  | 4 => .array .int
  | 5 => .array .int
  | 6 => .array .int
  | 7 => .array .int
  | 8 => .array .int
  | 9 => .array .int
  | 10 => .int
  | 11 => .boolean
  | 12 => .int
  | 13 => .array .boolean
  | 14 => .array .int
  | 15 => .array .boolean
  | 16 => .array .int
  | 17 => .int
  | 18 => .array .byte
  | 19 => .boolean
  | 20 => .int
  | 21 => .int
  | 22 => .boolean
  | 23 => .array .int
  | 24 => .array .int
  | 25 => .array .int
  | 26 => .int
  | 27 => .boolean
  | 28 => .boolean
  | 29 => .int
  | 30 => .boolean
  | 31 => .int
  | 32 => .boolean
  | 33 => .int
  | 34 => .boolean
  | 35 => .int
  | 36 => .int
  | 37 => .int
  | 38 => .array .int
  | 39 => .array .int
  | 40 => .int
  | 41 => .int
  | 42 => .int
  | 43 => .int
  | 44 => .int
  | 45 => .array .int
  | 46 => .array .int
  | 47 => .array .int
  | 48 => .array .int
  | _ => .long
theorem nmX11 : ∀ a, a < 50 → ∀ b, b < 50 → a ≠ b → (TX11 a).2.1 ≠ (TX11 b).2.1 := by decide +kernel
theorem tyX11_ok : ∀ k, k < 50 → parseFieldDescriptor (TX11 k).2.2.1 = some (tyX11 k) := by decide +kernel
abbrev cX11_init : ByteArray := prog_13_method_1_code
def yX11_init : MethodName := ⟨RX11, "<init>", "()V"⟩
abbrev cX11_within : ByteArray := prog_13_method_3_code
def yX11_within : MethodName := ⟨RX11, "within", "(III)Z"⟩
abbrev cX11_has : ByteArray := prog_13_method_4_code
def yX11_has : MethodName := ⟨RX11, "has", "(II)Z"⟩
abbrev cX11_letters : ByteArray := prog_13_method_5_code
def yX11_letters : MethodName := ⟨RX11, "letters", "(J)I"⟩
abbrev cX11_blank : ByteArray := prog_13_method_6_code
def yX11_blank : MethodName := ⟨RX11, "blank", "()I"⟩
abbrev cX11_nextState : ByteArray := prog_13_method_7_code
def yX11_nextState : MethodName := ⟨RX11, "nextState", "(II)I"⟩
abbrev cX11_afterTurns : ByteArray := prog_13_method_8_code
def yX11_afterTurns : MethodName := ⟨RX11, "afterTurns", "(I)I"⟩
abbrev cX11_readVow : ByteArray := prog_13_method_9_code
def yX11_readVow : MethodName := ⟨RX11, "readVow", "()V"⟩
abbrev cX11_fault : ByteArray := prog_13_method_10_code
def yX11_fault : MethodName := ⟨RX11, "fault", "()I"⟩
abbrev cX11_vow : ByteArray := prog_13_method_11_code
def yX11_vow : MethodName := ⟨RX11, "vow", "()I"⟩
abbrev cX11_isVow : ByteArray := prog_13_method_12_code
def yX11_isVow : MethodName := ⟨RX11, "isVow", "(I)Z"⟩
abbrev cX11_vowNow : ByteArray := prog_13_method_13_code
def yX11_vowNow : MethodName := ⟨RX11, "vowNow", "(II)I"⟩
abbrev cX11_vowTold : ByteArray := prog_13_method_14_code
def yX11_vowTold : MethodName := ⟨RX11, "vowTold", "(II)I"⟩
abbrev cX11_isHermit : ByteArray := prog_13_method_15_code
def yX11_isHermit : MethodName := ⟨RX11, "isHermit", "(I)Z"⟩
abbrev cX11_isNumber : ByteArray := prog_13_method_16_code
def yX11_isNumber : MethodName := ⟨RX11, "isNumber", "(II)Z"⟩
abbrev cX11_hermit : ByteArray := prog_13_method_17_code
def yX11_hermit : MethodName := ⟨RX11, "hermit", "(IIIIII)I"⟩
abbrev cX11_as : ByteArray := prog_13_method_18_code
def yX11_as : MethodName := ⟨RX11, "as", "(II)I"⟩
abbrev cX11_hermitNow : ByteArray := prog_13_method_19_code
def yX11_hermitNow : MethodName := ⟨RX11, "hermitNow", "(II)I"⟩
abbrev cX11_about : ByteArray := prog_13_method_20_code
def yX11_about : MethodName := ⟨RX11, "about", "(II)I"⟩
abbrev cX11_store : ByteArray := prog_13_method_21_code
def yX11_store : MethodName := ⟨RX11, "store", "(II)I"⟩
abbrev cX11_isSeat : ByteArray := prog_13_method_22_code
def yX11_isSeat : MethodName := ⟨RX11, "isSeat", "(I)Z"⟩
abbrev cX11_exchange : ByteArray := prog_13_method_23_code
def yX11_exchange : MethodName := ⟨RX11, "exchange", "(II)V"⟩
abbrev cX11_change : ByteArray := prog_13_method_24_code
def yX11_change : MethodName := ⟨RX11, "change", "(II)I"⟩
abbrev cX11_soup : ByteArray := prog_13_method_25_code
def yX11_soup : MethodName := ⟨RX11, "soup", "(II)I"⟩
abbrev cX11_heat : ByteArray := prog_13_method_26_code
def yX11_heat : MethodName := ⟨RX11, "heat", "(I)I"⟩
abbrev cX11_feast : ByteArray := prog_13_method_27_code
def yX11_feast : MethodName := ⟨RX11, "feast", "(Z)I"⟩
abbrev cX11_useVow : ByteArray := prog_13_method_28_code
def yX11_useVow : MethodName := ⟨RX11, "useVow", "(I)V"⟩
abbrev cX11_useStores : ByteArray := prog_13_method_29_code
def yX11_useStores : MethodName := ⟨RX11, "useStores", "()V"⟩
abbrev cX11_beginDay : ByteArray := prog_13_method_30_code
def yX11_beginDay : MethodName := ⟨RX11, "beginDay", "()V"⟩
abbrev cX11_isSkipped : ByteArray := prog_13_method_31_code
def yX11_isSkipped : MethodName := ⟨RX11, "isSkipped", "(I)Z"⟩
abbrev cX11_soupLeft : ByteArray := prog_13_method_32_code
def yX11_soupLeft : MethodName := ⟨RX11, "soupLeft", "()I"⟩
abbrev cX11_areAllSkipped : ByteArray := prog_13_method_33_code
def yX11_areAllSkipped : MethodName := ⟨RX11, "areAllSkipped", "()Z"⟩
abbrev cX11_isOver : ByteArray := prog_13_method_34_code
def yX11_isOver : MethodName := ⟨RX11, "isOver", "()Z"⟩
abbrev cX11_onward : ByteArray := prog_13_method_35_code
def yX11_onward : MethodName := ⟨RX11, "onward", "(IZ)I"⟩
abbrev cX11_stir : ByteArray := prog_13_method_36_code
def yX11_stir : MethodName := ⟨RX11, "stir", "()V"⟩
abbrev cX11_biteOnce : ByteArray := prog_13_method_37_code
def yX11_biteOnce : MethodName := ⟨RX11, "biteOnce", "(I)V"⟩
abbrev cX11_biteTurn : ByteArray := prog_13_method_38_code
def yX11_biteTurn : MethodName := ⟨RX11, "biteTurn", "(I)V"⟩
abbrev cX11_takeBeats : ByteArray := prog_13_method_39_code
def yX11_takeBeats : MethodName := ⟨RX11, "takeBeats", "(I)V"⟩
abbrev cX11_beatsOf : ByteArray := prog_13_method_40_code
def yX11_beatsOf : MethodName := ⟨RX11, "beatsOf", "(I)I"⟩
abbrev cX11_goDay : ByteArray := prog_13_method_41_code
def yX11_goDay : MethodName := ⟨RX11, "goDay", "(II)V"⟩
abbrev cX11_isDay : ByteArray := prog_13_method_42_code
def yX11_isDay : MethodName := ⟨RX11, "isDay", "(II)Z"⟩
abbrev cX11_areFasts : ByteArray := prog_13_method_43_code
def yX11_areFasts : MethodName := ⟨RX11, "areFasts", "(I)Z"⟩
abbrev cX11_layDay : ByteArray := prog_13_method_44_code
def yX11_layDay : MethodName := ⟨RX11, "layDay", "(III)V"⟩
abbrev cX11_dayNow : ByteArray := prog_13_method_45_code
def yX11_dayNow : MethodName := ⟨RX11, "dayNow", "(I)I"⟩
abbrev cX11_day : ByteArray := prog_13_method_46_code
def yX11_day : MethodName := ⟨RX11, "day", "(IIII)I"⟩
abbrev cX11_meal : ByteArray := prog_13_method_47_code
def yX11_meal : MethodName := ⟨RX11, "meal", "(IIII)I"⟩
abbrev cX11_bite : ByteArray := prog_13_method_48_code
def yX11_bite : MethodName := ⟨RX11, "bite", "(IIIII)I"⟩
abbrev cX11_leastNow : ByteArray := prog_13_method_49_code
def yX11_leastNow : MethodName := ⟨RX11, "leastNow", "()I"⟩
abbrev cX11_leastOf : ByteArray := prog_13_method_50_code
def yX11_leastOf : MethodName := ⟨RX11, "leastOf", "(II)I"⟩
abbrev cX11_least : ByteArray := prog_13_method_51_code
def yX11_least : MethodName := ⟨RX11, "least", "(II)I"⟩
abbrev cX11_bestStart : ByteArray := prog_13_method_52_code
def yX11_bestStart : MethodName := ⟨RX11, "bestStart", "(I)I"⟩
abbrev cX11_bestSwap : ByteArray := prog_13_method_53_code
def yX11_bestSwap : MethodName := ⟨RX11, "bestSwap", "(II)I"⟩
abbrev cX11_bestStir : ByteArray := prog_13_method_54_code
def yX11_bestStir : MethodName := ⟨RX11, "bestStir", "(II)I"⟩
abbrev cX11_digestDay : ByteArray := prog_13_method_55_code
def yX11_digestDay : MethodName := ⟨RX11, "digestDay", "()I"⟩
abbrev cX11_live : ByteArray := prog_13_method_56_code
def yX11_live : MethodName := ⟨RX11, "live", "(III)I"⟩
abbrev cX11_starves : ByteArray := prog_13_method_57_code
def yX11_starves : MethodName := ⟨RX11, "starves", "(III)I"⟩
abbrev cX11_sittersFrom : ByteArray := prog_13_method_58_code
def yX11_sittersFrom : MethodName := ⟨RX11, "sittersFrom", "(II)I"⟩
abbrev cX11_areFed : ByteArray := prog_13_method_59_code
def yX11_areFed : MethodName := ⟨RX11, "areFed", "(IIII)Z"⟩
abbrev cX11_fasting : ByteArray := prog_13_method_60_code
def yX11_fasting : MethodName := ⟨RX11, "fasting", "(III)I"⟩
abbrev cX11_passSkipped : ByteArray := prog_13_method_61_code
def yX11_passSkipped : MethodName := ⟨RX11, "passSkipped", "(IZ)I"⟩
abbrev cX11_goSchism : ByteArray := prog_13_method_62_code
def yX11_goSchism : MethodName := ⟨RX11, "goSchism", "(I)V"⟩
abbrev cX11_schism : ByteArray := prog_13_method_63_code
def yX11_schism : MethodName := ⟨RX11, "schism", "(II)I"⟩
abbrev cX11_explains : ByteArray := prog_13_method_64_code
def yX11_explains : MethodName := ⟨RX11, "explains", "(IIIII)Z"⟩
abbrev cX11_twice : ByteArray := prog_13_method_65_code
def yX11_twice : MethodName := ⟨RX11, "twice", "(IIII)I"⟩
abbrev cX11_image : ByteArray := prog_13_method_66_code
def yX11_image : MethodName := ⟨RX11, "image", "()I"⟩
abbrev cX11_restore : ByteArray := prog_13_method_67_code
def yX11_restore : MethodName := ⟨RX11, "restore", "()I"⟩
abbrev cX11_soupAll : ByteArray := prog_13_method_68_code
def yX11_soupAll : MethodName := ⟨RX11, "soupAll", "()I"⟩
abbrev cX11_starvedMany : ByteArray := prog_13_method_69_code
def yX11_starvedMany : MethodName := ⟨RX11, "starvedMany", "()I"⟩
abbrev cX11_howMany : ByteArray := prog_13_method_70_code
def yX11_howMany : MethodName := ⟨RX11, "howMany", "(I)I"⟩
abbrev cX11_count : ByteArray := prog_13_method_71_code
def yX11_count : MethodName := ⟨RX11, "count", "(I)I"⟩
abbrev cX11_mix : ByteArray := prog_13_method_72_code
def yX11_mix : MethodName := ⟨RX11, "mix", "(J)V"⟩
abbrev cX11_mixVow : ByteArray := prog_13_method_73_code
def yX11_mixVow : MethodName := ⟨RX11, "mixVow", "(I)V"⟩
abbrev cX11_digest : ByteArray := prog_13_method_74_code
def yX11_digest : MethodName := ⟨RX11, "digest", "()J"⟩
def RJx145de : String := "java/io/Serializable"
def TJx145de : u_T := fun k => match k with
  | _ => ("", "", "", false)
def tyJx145de : Nat → FieldType := fun k => match k with
  | _ => .int
theorem nmJx145de : ∀ a, a < 0 → ∀ b, b < 0 → a ≠ b → (TJx145de a).2.1 ≠ (TJx145de b).2.1 := by decide +kernel
theorem tyJx145de_ok : ∀ k, k < 0 → parseFieldDescriptor (TJx145de k).2.2.1 = some (tyJx145de k) := by decide +kernel
def RJx8e188 : String := "java/lang/Cloneable"
def TJx8e188 : u_T := fun k => match k with
  | _ => ("", "", "", false)
def tyJx8e188 : Nat → FieldType := fun k => match k with
  | _ => .int
theorem nmJx8e188 : ∀ a, a < 0 → ∀ b, b < 0 → a ≠ b → (TJx8e188 a).2.1 ≠ (TJx8e188 b).2.1 := by decide +kernel
theorem tyJx8e188_ok : ∀ k, k < 0 → parseFieldDescriptor (TJx8e188 k).2.2.1 = some (tyJx8e188 k) := by decide +kernel
def RJxab1ab : String := "java/lang/Iterable"
def TJxab1ab : u_T := fun k => match k with
  | _ => ("", "", "", false)
def tyJxab1ab : Nat → FieldType := fun k => match k with
  | _ => .int
theorem nmJxab1ab : ∀ a, a < 0 → ∀ b, b < 0 → a ≠ b → (TJxab1ab a).2.1 ≠ (TJxab1ab b).2.1 := by decide +kernel
theorem tyJxab1ab_ok : ∀ k, k < 0 → parseFieldDescriptor (TJxab1ab k).2.2.1 = some (tyJxab1ab k) := by decide +kernel
def RJ9 : String := "java/lang/Math"
def TJ9 : u_T := fun k => match k with
  | _ => ("", "", "", false)
def tyJ9 : Nat → FieldType := fun k => match k with
  | _ => .int
theorem nmJ9 : ∀ a, a < 0 → ∀ b, b < 0 → a ≠ b → (TJ9 a).2.1 ≠ (TJ9 b).2.1 := by decide +kernel
theorem tyJ9_ok : ∀ k, k < 0 → parseFieldDescriptor (TJ9 k).2.2.1 = some (tyJ9 k) := by decide +kernel
abbrev cJ9_max_7cf53 : ByteArray := prog_17_method_65_code
def yJ9_max_7cf53 : MethodName := ⟨RJ9, "max", "(II)I"⟩
abbrev cJ9_min_7cf53 : ByteArray := prog_17_method_69_code
def yJ9_min_7cf53 : MethodName := ⟨RJ9, "min", "(II)I"⟩
def RJ10 : String := "java/lang/System"
def TJ10 : u_T := fun k => match k with
  | _ => ("", "", "", false)
def tyJ10 : Nat → FieldType := fun k => match k with
  | _ => .int
theorem nmJ10 : ∀ a, a < 0 → ∀ b, b < 0 → a ≠ b → (TJ10 a).2.1 ≠ (TJ10 b).2.1 := by decide +kernel
theorem tyJ10_ok : ∀ k, k < 0 → parseFieldDescriptor (TJ10 k).2.2.1 = some (tyJ10 k) := by decide +kernel
def RJxa1e45 : String := "java/util/AbstractCollection"
def TJxa1e45 : u_T := fun k => match k with
  | _ => ("", "", "", false)
def tyJxa1e45 : Nat → FieldType := fun k => match k with
  | _ => .int
theorem nmJxa1e45 : ∀ a, a < 0 → ∀ b, b < 0 → a ≠ b → (TJxa1e45 a).2.1 ≠ (TJxa1e45 b).2.1 := by decide +kernel
theorem tyJxa1e45_ok : ∀ k, k < 0 → parseFieldDescriptor (TJxa1e45 k).2.2.1 = some (tyJxa1e45 k) := by decide +kernel
abbrev cJxa1e45_init_da8c8 : ByteArray := prog_19_method_1_code
def yJxa1e45_init_da8c8 : MethodName := ⟨RJxa1e45, "<init>", "()V"⟩
def RJxc12de : String := "java/util/AbstractList"
def TJxc12de : u_T := fun k => match k with
  | _ => ("", "", "", false)
def tyJxc12de : Nat → FieldType := fun k => match k with
  | _ => .int
theorem nmJxc12de : ∀ a, a < 0 → ∀ b, b < 0 → a ≠ b → (TJxc12de a).2.1 ≠ (TJxc12de b).2.1 := by decide +kernel
theorem tyJxc12de_ok : ∀ k, k < 0 → parseFieldDescriptor (TJxc12de k).2.2.1 = some (tyJxc12de k) := by decide +kernel
abbrev cJxc12de_init_da8c8 : ByteArray := prog_20_method_1_code
def yJxc12de_init_da8c8 : MethodName := ⟨RJxc12de, "<init>", "()V"⟩
def RJx4a65c : String := "java/util/ArrayList"
def TJx4a65c : u_T := fun k => match k with
  | 0 => ("java/util/AbstractList", "modCount", "I", false)
  | 1 => ("java/util/ArrayList", "elementData", "[Ljava/lang/Object;", false)
  | _ => ("java/util/ArrayList", "size", "I", false)
def tyJx4a65c : Nat → FieldType := fun k => match k with
  | 0 => .int
  | 1 => .array (.object "java/lang/Object")
  | _ => .int
theorem nmJx4a65c : ∀ a, a < 3 → ∀ b, b < 3 → a ≠ b → (TJx4a65c a).2.1 ≠ (TJx4a65c b).2.1 := by decide +kernel
theorem tyJx4a65c_ok : ∀ k, k < 3 → parseFieldDescriptor (TJx4a65c k).2.2.1 = some (tyJx4a65c k) := by decide +kernel
abbrev cJx4a65c_init_da8c8 : ByteArray := prog_21_method_2_code
def yJx4a65c_init_da8c8 : MethodName := ⟨RJx4a65c, "<init>", "()V"⟩
abbrev cJx4a65c_grow_92f84 : ByteArray := prog_21_method_6_code
def yJx4a65c_grow_92f84 : MethodName := ⟨RJx4a65c, "grow", "(I)[Ljava/lang/Object;"⟩
abbrev cJx4a65c_grow_d5877 : ByteArray := prog_21_method_7_code
def yJx4a65c_grow_d5877 : MethodName := ⟨RJx4a65c, "grow", "()[Ljava/lang/Object;"⟩
abbrev cJx4a65c_size_8abf5 : ByteArray := prog_21_method_8_code
def yJx4a65c_size_8abf5 : MethodName := ⟨RJx4a65c, "size", "()I"⟩
abbrev cJx4a65c_isEmpty_aae02 : ByteArray := prog_21_method_9_code
def yJx4a65c_isEmpty_aae02 : MethodName := ⟨RJx4a65c, "isEmpty", "()Z"⟩
abbrev cJx4a65c_elementData_915e3 : ByteArray := prog_21_method_18_code
def yJx4a65c_elementData_915e3 : MethodName := ⟨RJx4a65c, "elementData", "(I)Ljava/lang/Object;"⟩
abbrev cJx4a65c_get_915e3 : ByteArray := prog_21_method_20_code
def yJx4a65c_get_915e3 : MethodName := ⟨RJx4a65c, "get", "(I)Ljava/lang/Object;"⟩
abbrev cJx4a65c_add_72be8 : ByteArray := prog_21_method_24_code
def yJx4a65c_add_72be8 : MethodName := ⟨RJx4a65c, "add", "(Ljava/lang/Object;[Ljava/lang/Object;I)V"⟩
abbrev cJx4a65c_add_9ea2d : ByteArray := prog_21_method_25_code
def yJx4a65c_add_9ea2d : MethodName := ⟨RJx4a65c, "add", "(Ljava/lang/Object;)Z"⟩
def RJ7 : String := "java/util/Arrays"
def TJ7 : u_T := fun k => match k with
  | _ => ("", "", "", false)
def tyJ7 : Nat → FieldType := fun k => match k with
  | _ => .int
theorem nmJ7 : ∀ a, a < 0 → ∀ b, b < 0 → a ≠ b → (TJ7 a).2.1 ≠ (TJ7 b).2.1 := by decide +kernel
theorem tyJ7_ok : ∀ k, k < 0 → parseFieldDescriptor (TJ7 k).2.2.1 = some (tyJ7 k) := by decide +kernel
abbrev cJ7_copyOf_1904c : ByteArray := prog_22_method_119_code
def yJ7_copyOf_1904c : MethodName := ⟨RJ7, "copyOf", "([Ljava/lang/Object;I)[Ljava/lang/Object;"⟩
abbrev cJ7_copyOf_6403c : ByteArray := prog_22_method_120_code
def yJ7_copyOf_6403c : MethodName := ⟨RJ7, "copyOf", "([Ljava/lang/Object;ILjava/lang/Class;)[Ljava/lang/Object;"⟩
def RJx5ef63 : String := "java/util/Collection"
def TJx5ef63 : u_T := fun k => match k with
  | _ => ("", "", "", false)
def tyJx5ef63 : Nat → FieldType := fun k => match k with
  | _ => .int
theorem nmJx5ef63 : ∀ a, a < 0 → ∀ b, b < 0 → a ≠ b → (TJx5ef63 a).2.1 ≠ (TJx5ef63 b).2.1 := by decide +kernel
theorem tyJx5ef63_ok : ∀ k, k < 0 → parseFieldDescriptor (TJx5ef63 k).2.2.1 = some (tyJx5ef63 k) := by decide +kernel
def RJxbd725 : String := "java/util/List"
def TJxbd725 : u_T := fun k => match k with
  | _ => ("", "", "", false)
def tyJxbd725 : Nat → FieldType := fun k => match k with
  | _ => .int
theorem nmJxbd725 : ∀ a, a < 0 → ∀ b, b < 0 → a ≠ b → (TJxbd725 a).2.1 ≠ (TJxbd725 b).2.1 := by decide +kernel
theorem tyJxbd725_ok : ∀ k, k < 0 → parseFieldDescriptor (TJxbd725 k).2.2.1 = some (tyJxbd725 k) := by decide +kernel
def RJ15 : String := "java/util/Objects"
def TJ15 : u_T := fun k => match k with
  | _ => ("", "", "", false)
def tyJ15 : Nat → FieldType := fun k => match k with
  | _ => .int
theorem nmJ15 : ∀ a, a < 0 → ∀ b, b < 0 → a ≠ b → (TJ15 a).2.1 ≠ (TJ15 b).2.1 := by decide +kernel
theorem tyJ15_ok : ∀ k, k < 0 → parseFieldDescriptor (TJ15 k).2.2.1 = some (tyJ15 k) := by decide +kernel
abbrev cJ15_checkIndex_7cf53 : ByteArray := prog_25_method_17_code
def yJ15_checkIndex_7cf53 : MethodName := ⟨RJ15, "checkIndex", "(II)I"⟩
def RJxf0a74 : String := "java/util/RandomAccess"
def TJxf0a74 : u_T := fun k => match k with
  | _ => ("", "", "", false)
def tyJxf0a74 : Nat → FieldType := fun k => match k with
  | _ => .int
theorem nmJxf0a74 : ∀ a, a < 0 → ∀ b, b < 0 → a ≠ b → (TJxf0a74 a).2.1 ≠ (TJxf0a74 b).2.1 := by decide +kernel
theorem tyJxf0a74_ok : ∀ k, k < 0 → parseFieldDescriptor (TJxf0a74 k).2.2.1 = some (tyJxf0a74 k) := by decide +kernel
def RJxa66e6 : String := "java/util/SequencedCollection"
def TJxa66e6 : u_T := fun k => match k with
  | _ => ("", "", "", false)
def tyJxa66e6 : Nat → FieldType := fun k => match k with
  | _ => .int
theorem nmJxa66e6 : ∀ a, a < 0 → ∀ b, b < 0 → a ≠ b → (TJxa66e6 a).2.1 ≠ (TJxa66e6 b).2.1 := by decide +kernel
theorem tyJxa66e6_ok : ∀ k, k < 0 → parseFieldDescriptor (TJxa66e6 k).2.2.1 = some (tyJxa66e6 k) := by decide +kernel
def RJ8 : String := "jdk/internal/util/ArraysSupport"
def TJ8 : u_T := fun k => match k with
  | _ => ("", "", "", false)
def tyJ8 : Nat → FieldType := fun k => match k with
  | _ => .int
theorem nmJ8 : ∀ a, a < 0 → ∀ b, b < 0 → a ≠ b → (TJ8 a).2.1 ≠ (TJ8 b).2.1 := by decide +kernel
theorem tyJ8_ok : ∀ k, k < 0 → parseFieldDescriptor (TJ8 k).2.2.1 = some (tyJ8 k) := by decide +kernel
abbrev cJ8_newLength_cabcc : ByteArray := prog_28_method_27_code
def yJ8_newLength_cabcc : MethodName := ⟨RJ8, "newLength", "(III)I"⟩
abbrev cJ8_hugeLength_7cf53 : ByteArray := prog_28_method_28_code
def yJ8_hugeLength_7cf53 : MethodName := ⟨RJ8, "hugeLength", "(II)I"⟩
def RJ3 : String := "jdk/internal/util/Preconditions"
def TJ3 : u_T := fun k => match k with
  | _ => ("", "", "", false)
def tyJ3 : Nat → FieldType := fun k => match k with
  | _ => .int
theorem nmJ3 : ∀ a, a < 0 → ∀ b, b < 0 → a ≠ b → (TJ3 a).2.1 ≠ (TJ3 b).2.1 := by decide +kernel
theorem tyJ3_ok : ∀ k, k < 0 → parseFieldDescriptor (TJ3 k).2.2.1 = some (tyJ3 k) := by decide +kernel
abbrev cJ3_checkIndex_8e157 : ByteArray := prog_29_method_11_code
def yJ3_checkIndex_8e157 : MethodName := ⟨RJ3, "checkIndex", "(IILjava/util/function/BiFunction;)I"⟩
def RL : String := "HermitsSpoonLaw"
abbrev cL_law : ByteArray := code
def yL_law : MethodName := ⟨RL, "law", "([I)Z"⟩
abbrev vwCl : List vw_C := [(RJx4a65c, TJx4a65c, 3), (RX0, TX0, 3), (RX1, TX1, 4), (RX2, TX2, 4), (RX3, TX3, 4), (RX4, TX4, 4), (RX5, TX5, 8), (RX6, TX6, 14), (RX7, TX7, 4), (RX8, TX8, 6), (RX9, TX9, 4), (RX10, TX10, 8), (RX11, TX11, 50)]
end
section
theorem dX11_init_0 : decode cX11_init 0 = .ok (.aload_n 0, 1) := by decide +kernel
theorem dX11_init_1 : decode cX11_init 1 = .ok (.invokespecial 1, 3) := by decide +kernel
theorem dX11_init_4 : decode cX11_init 4 = .ok (.aload_n 0, 1) := by decide +kernel
theorem dX11_init_5 : decode cX11_init 5 = .ok (.bipush 10, 2) := by decide +kernel
theorem dX11_init_7 : decode cX11_init 7 = .ok (.newarray .int, 2) := by decide +kernel
theorem dX11_init_9 : decode cX11_init 9 = .ok (.putfield 7, 3) := by decide +kernel
theorem dX11_init_12 : decode cX11_init 12 = .ok (.aload_n 0, 1) := by decide +kernel
theorem dX11_init_13 : decode cX11_init 13 = .ok (.bipush 10, 2) := by decide +kernel
theorem dX11_init_15 : decode cX11_init 15 = .ok (.newarray .int, 2) := by decide +kernel
theorem dX11_init_17 : decode cX11_init 17 = .ok (.putfield 13, 3) := by decide +kernel
theorem dX11_init_20 : decode cX11_init 20 = .ok (.aload_n 0, 1) := by decide +kernel
theorem dX11_init_21 : decode cX11_init 21 = .ok (.bipush 10, 2) := by decide +kernel
theorem dX11_init_23 : decode cX11_init 23 = .ok (.newarray .int, 2) := by decide +kernel
theorem dX11_init_25 : decode cX11_init 25 = .ok (.putfield 16, 3) := by decide +kernel
theorem dX11_init_28 : decode cX11_init 28 = .ok (.aload_n 0, 1) := by decide +kernel
theorem dX11_init_29 : decode cX11_init 29 = .ok (.bipush 10, 2) := by decide +kernel
theorem dX11_init_31 : decode cX11_init 31 = .ok (.newarray .int, 2) := by decide +kernel
theorem dX11_init_33 : decode cX11_init 33 = .ok (.putfield 19, 3) := by decide +kernel
theorem dX11_init_36 : decode cX11_init 36 = .ok (.aload_n 0, 1) := by decide +kernel
theorem dX11_init_37 : decode cX11_init 37 = .ok (.bipush 10, 2) := by decide +kernel
theorem dX11_init_39 : decode cX11_init 39 = .ok (.newarray .int, 2) := by decide +kernel
theorem dX11_init_41 : decode cX11_init 41 = .ok (.putfield 22, 3) := by decide +kernel
theorem dX11_init_44 : decode cX11_init 44 = .ok (.aload_n 0, 1) := by decide +kernel
theorem dX11_init_45 : decode cX11_init 45 = .ok (.bipush 10, 2) := by decide +kernel
theorem dX11_init_47 : decode cX11_init 47 = .ok (.newarray .int, 2) := by decide +kernel
theorem dX11_init_49 : decode cX11_init 49 = .ok (.putfield 25, 3) := by decide +kernel
theorem dX11_init_52 : decode cX11_init 52 = .ok (.aload_n 0, 1) := by decide +kernel
theorem dX11_init_53 : decode cX11_init 53 = .ok (.bipush 10, 2) := by decide +kernel
theorem dX11_init_55 : decode cX11_init 55 = .ok (.newarray .int, 2) := by decide +kernel
theorem dX11_init_57 : decode cX11_init 57 = .ok (.putfield 28, 3) := by decide +kernel
theorem dX11_init_60 : decode cX11_init 60 = .ok (.aload_n 0, 1) := by decide +kernel
theorem dX11_init_61 : decode cX11_init 61 = .ok (.bipush 10, 2) := by decide +kernel
theorem dX11_init_63 : decode cX11_init 63 = .ok (.newarray .int, 2) := by decide +kernel
theorem dX11_init_65 : decode cX11_init 65 = .ok (.putfield 31, 3) := by decide +kernel
theorem dX11_init_68 : decode cX11_init 68 = .ok (.aload_n 0, 1) := by decide +kernel
theorem dX11_init_69 : decode cX11_init 69 = .ok (.iconst 5, 1) := by decide +kernel
theorem dX11_init_70 : decode cX11_init 70 = .ok (.newarray .int, 2) := by decide +kernel
theorem dX11_init_72 : decode cX11_init 72 = .ok (.putfield 34, 3) := by decide +kernel
theorem dX11_init_75 : decode cX11_init 75 = .ok (.aload_n 0, 1) := by decide +kernel
theorem dX11_init_76 : decode cX11_init 76 = .ok (.bipush 100, 2) := by decide +kernel
theorem dX11_init_78 : decode cX11_init 78 = .ok (.putfield 37, 3) := by decide +kernel
theorem dX11_init_81 : decode cX11_init 81 = .ok (.aload_n 0, 1) := by decide +kernel
theorem dX11_init_82 : decode cX11_init 82 = .ok (.bipush 6, 2) := by decide +kernel
theorem dX11_init_84 : decode cX11_init 84 = .ok (.newarray .boolean, 2) := by decide +kernel
theorem dX11_init_86 : decode cX11_init 86 = .ok (.putfield 41, 3) := by decide +kernel
theorem dX11_init_89 : decode cX11_init 89 = .ok (.aload_n 0, 1) := by decide +kernel
theorem dX11_init_90 : decode cX11_init 90 = .ok (.bipush 6, 2) := by decide +kernel
theorem dX11_init_92 : decode cX11_init 92 = .ok (.newarray .int, 2) := by decide +kernel
theorem dX11_init_94 : decode cX11_init 94 = .ok (.putfield 45, 3) := by decide +kernel
theorem dX11_init_97 : decode cX11_init 97 = .ok (.aload_n 0, 1) := by decide +kernel
theorem dX11_init_98 : decode cX11_init 98 = .ok (.bipush 6, 2) := by decide +kernel
theorem dX11_init_100 : decode cX11_init 100 = .ok (.newarray .boolean, 2) := by decide +kernel
theorem dX11_init_102 : decode cX11_init 102 = .ok (.putfield 48, 3) := by decide +kernel
theorem dX11_init_105 : decode cX11_init 105 = .ok (.aload_n 0, 1) := by decide +kernel
theorem dX11_init_106 : decode cX11_init 106 = .ok (.bipush 6, 2) := by decide +kernel
theorem dX11_init_108 : decode cX11_init 108 = .ok (.newarray .int, 2) := by decide +kernel
theorem dX11_init_110 : decode cX11_init 110 = .ok (.putfield 51, 3) := by decide +kernel
theorem dX11_init_113 : decode cX11_init 113 = .ok (.aload_n 0, 1) := by decide +kernel
theorem dX11_init_114 : decode cX11_init 114 = .ok (.bipush 16, 2) := by decide +kernel
theorem dX11_init_116 : decode cX11_init 116 = .ok (.newarray .byte, 2) := by decide +kernel
theorem dX11_init_118 : decode cX11_init 118 = .ok (.putfield 54, 3) := by decide +kernel
theorem dX11_init_121 : decode cX11_init 121 = .ok (.aload_n 0, 1) := by decide +kernel
theorem dX11_init_122 : decode cX11_init 122 = .ok (.bipush 10, 2) := by decide +kernel
theorem dX11_init_124 : decode cX11_init 124 = .ok (.newarray .int, 2) := by decide +kernel
theorem dX11_init_126 : decode cX11_init 126 = .ok (.putfield 58, 3) := by decide +kernel
theorem dX11_init_129 : decode cX11_init 129 = .ok (.aload_n 0, 1) := by decide +kernel
theorem dX11_init_130 : decode cX11_init 130 = .ok (.bipush 10, 2) := by decide +kernel
theorem dX11_init_132 : decode cX11_init 132 = .ok (.newarray .int, 2) := by decide +kernel
theorem dX11_init_134 : decode cX11_init 134 = .ok (.putfield 61, 3) := by decide +kernel
theorem dX11_init_137 : decode cX11_init 137 = .ok (.aload_n 0, 1) := by decide +kernel
theorem dX11_init_138 : decode cX11_init 138 = .ok (.iconst 5, 1) := by decide +kernel
theorem dX11_init_139 : decode cX11_init 139 = .ok (.newarray .int, 2) := by decide +kernel
theorem dX11_init_141 : decode cX11_init 141 = .ok (.putfield 64, 3) := by decide +kernel
theorem dX11_init_144 : decode cX11_init 144 = .ok (.aload_n 0, 1) := by decide +kernel
theorem dX11_init_145 : decode cX11_init 145 = .ok (.bipush 10, 2) := by decide +kernel
theorem dX11_init_147 : decode cX11_init 147 = .ok (.newarray .int, 2) := by decide +kernel
theorem dX11_init_149 : decode cX11_init 149 = .ok (.putfield 67, 3) := by decide +kernel
theorem dX11_init_152 : decode cX11_init 152 = .ok (.aload_n 0, 1) := by decide +kernel
theorem dX11_init_153 : decode cX11_init 153 = .ok (.iconst 5, 1) := by decide +kernel
theorem dX11_init_154 : decode cX11_init 154 = .ok (.newarray .int, 2) := by decide +kernel
theorem dX11_init_156 : decode cX11_init 156 = .ok (.putfield 70, 3) := by decide +kernel
theorem dX11_init_159 : decode cX11_init 159 = .ok (.aload_n 0, 1) := by decide +kernel
theorem dX11_init_160 : decode cX11_init 160 = .ok (.bipush 10, 2) := by decide +kernel
theorem dX11_init_162 : decode cX11_init 162 = .ok (.newarray .int, 2) := by decide +kernel
theorem dX11_init_164 : decode cX11_init 164 = .ok (.putfield 73, 3) := by decide +kernel
theorem dX11_init_167 : decode cX11_init 167 = .ok (.aload_n 0, 1) := by decide +kernel
theorem dX11_init_168 : decode cX11_init 168 = .ok (.bipush 10, 2) := by decide +kernel
theorem dX11_init_170 : decode cX11_init 170 = .ok (.newarray .int, 2) := by decide +kernel
theorem dX11_init_172 : decode cX11_init 172 = .ok (.putfield 76, 3) := by decide +kernel
theorem dX11_init_175 : decode cX11_init 175 = .ok (.aload_n 0, 1) := by decide +kernel
theorem dX11_init_176 : decode cX11_init 176 = .ok (.bipush 10, 2) := by decide +kernel
theorem dX11_init_178 : decode cX11_init 178 = .ok (.newarray .int, 2) := by decide +kernel
theorem dX11_init_180 : decode cX11_init 180 = .ok (.putfield 79, 3) := by decide +kernel
theorem dX11_init_183 : decode cX11_init 183 = .ok (.aload_n 0, 1) := by decide +kernel
theorem dX11_init_184 : decode cX11_init 184 = .ok (.sipush 3000, 3) := by decide +kernel
theorem dX11_init_187 : decode cX11_init 187 = .ok (.newarray .int, 2) := by decide +kernel
theorem dX11_init_189 : decode cX11_init 189 = .ok (.putfield 82, 3) := by decide +kernel
theorem dX11_init_192 : decode cX11_init 192 = .ok (.return_, 1) := by decide +kernel
theorem dX11_within_0 : decode cX11_within 0 = .ok (.iload_n 0, 1) := by decide +kernel
theorem dX11_within_1 : decode cX11_within 1 = .ok (.iload_n 1, 1) := by decide +kernel
theorem dX11_within_2 : decode cX11_within 2 = .ok (.if_icmp .lt 12, 3) := by decide +kernel
theorem dX11_within_5 : decode cX11_within 5 = .ok (.iload_n 0, 1) := by decide +kernel
theorem dX11_within_6 : decode cX11_within 6 = .ok (.iload_n 2, 1) := by decide +kernel
theorem dX11_within_7 : decode cX11_within 7 = .ok (.if_icmp .gt 7, 3) := by decide +kernel
theorem dX11_within_10 : decode cX11_within 10 = .ok (.iconst 1, 1) := by decide +kernel
theorem dX11_within_11 : decode cX11_within 11 = .ok (.goto 4, 3) := by decide +kernel
theorem dX11_within_14 : decode cX11_within 14 = .ok (.iconst 0, 1) := by decide +kernel
theorem dX11_within_15 : decode cX11_within 15 = .ok (.ireturn, 1) := by decide +kernel
theorem dX11_has_0 : decode cX11_has 0 = .ok (.iload_n 0, 1) := by decide +kernel
theorem dX11_has_1 : decode cX11_has 1 = .ok (.iload_n 1, 1) := by decide +kernel
theorem dX11_has_2 : decode cX11_has 2 = .ok (.ishr, 1) := by decide +kernel
theorem dX11_has_3 : decode cX11_has 3 = .ok (.iconst 1, 1) := by decide +kernel
theorem dX11_has_4 : decode cX11_has 4 = .ok (.iand, 1) := by decide +kernel
theorem dX11_has_5 : decode cX11_has 5 = .ok (.iconst 1, 1) := by decide +kernel
theorem dX11_has_6 : decode cX11_has 6 = .ok (.if_icmp .ne 7, 3) := by decide +kernel
theorem dX11_has_9 : decode cX11_has 9 = .ok (.iconst 1, 1) := by decide +kernel
theorem dX11_has_10 : decode cX11_has 10 = .ok (.goto 4, 3) := by decide +kernel
theorem dX11_has_13 : decode cX11_has 13 = .ok (.iconst 0, 1) := by decide +kernel
theorem dX11_has_14 : decode cX11_has 14 = .ok (.ireturn, 1) := by decide +kernel
theorem dX11_letters_0 : decode cX11_letters 0 = .ok (.iconst 0, 1) := by decide +kernel
theorem dX11_letters_1 : decode cX11_letters 1 = .ok (.istore_n 3, 1) := by decide +kernel
theorem dX11_letters_2 : decode cX11_letters 2 = .ok (.iconst 0, 1) := by decide +kernel
theorem dX11_letters_3 : decode cX11_letters 3 = .ok (.istore 4, 2) := by decide +kernel
theorem dX11_letters_5 : decode cX11_letters 5 = .ok (.iconst 0, 1) := by decide +kernel
theorem dX11_letters_6 : decode cX11_letters 6 = .ok (.istore 5, 2) := by decide +kernel
theorem dX11_letters_8 : decode cX11_letters 8 = .ok (.iload 5, 2) := by decide +kernel
theorem dX11_letters_10 : decode cX11_letters 10 = .ok (.bipush 8, 2) := by decide +kernel
theorem dX11_letters_12 : decode cX11_letters 12 = .ok (.if_icmp .ge 73, 3) := by decide +kernel
theorem dX11_letters_15 : decode cX11_letters 15 = .ok (.lload_n 1, 1) := by decide +kernel
theorem dX11_letters_16 : decode cX11_letters 16 = .ok (.bipush 8, 2) := by decide +kernel
theorem dX11_letters_18 : decode cX11_letters 18 = .ok (.iload 5, 2) := by decide +kernel
theorem dX11_letters_20 : decode cX11_letters 20 = .ok (.imul, 1) := by decide +kernel
theorem dX11_letters_21 : decode cX11_letters 21 = .ok (.lshr, 1) := by decide +kernel
theorem dX11_letters_22 : decode cX11_letters 22 = .ok (.ldc2_w 85, 3) := by decide +kernel
theorem dX11_letters_25 : decode cX11_letters 25 = .ok (.land, 1) := by decide +kernel
theorem dX11_letters_26 : decode cX11_letters 26 = .ok (.l2i, 1) := by decide +kernel
theorem dX11_letters_27 : decode cX11_letters 27 = .ok (.istore 6, 2) := by decide +kernel
theorem dX11_letters_29 : decode cX11_letters 29 = .ok (.iload 6, 2) := by decide +kernel
theorem dX11_letters_31 : decode cX11_letters 31 = .ok (.bipush 126, 2) := by decide +kernel
theorem dX11_letters_33 : decode cX11_letters 33 = .ok (.if_icmp .gt 13, 3) := by decide +kernel
theorem dX11_letters_36 : decode cX11_letters 36 = .ok (.iload 4, 2) := by decide +kernel
theorem dX11_letters_38 : decode cX11_letters 38 = .ok (.ifCond .eq 11, 3) := by decide +kernel
theorem dX11_letters_41 : decode cX11_letters 41 = .ok (.iload 6, 2) := by decide +kernel
theorem dX11_letters_43 : decode cX11_letters 43 = .ok (.ifCond .eq 6, 3) := by decide +kernel
theorem dX11_letters_46 : decode cX11_letters 46 = .ok (.bipush (-102), 2) := by decide +kernel
theorem dX11_letters_48 : decode cX11_letters 48 = .ok (.ireturn, 1) := by decide +kernel
theorem dX11_letters_49 : decode cX11_letters 49 = .ok (.iload 4, 2) := by decide +kernel
theorem dX11_letters_51 : decode cX11_letters 51 = .ok (.ifCond .ne 8, 3) := by decide +kernel
theorem dX11_letters_54 : decode cX11_letters 54 = .ok (.iload 6, 2) := by decide +kernel
theorem dX11_letters_56 : decode cX11_letters 56 = .ok (.ifCond .ne 7, 3) := by decide +kernel
theorem dX11_letters_59 : decode cX11_letters 59 = .ok (.iconst 1, 1) := by decide +kernel
theorem dX11_letters_60 : decode cX11_letters 60 = .ok (.goto 4, 3) := by decide +kernel
theorem dX11_letters_63 : decode cX11_letters 63 = .ok (.iconst 0, 1) := by decide +kernel
theorem dX11_letters_64 : decode cX11_letters 64 = .ok (.istore 4, 2) := by decide +kernel
theorem dX11_letters_66 : decode cX11_letters 66 = .ok (.iload_n 3, 1) := by decide +kernel
theorem dX11_letters_67 : decode cX11_letters 67 = .ok (.iload 6, 2) := by decide +kernel
theorem dX11_letters_69 : decode cX11_letters 69 = .ok (.ifCond .ne 7, 3) := by decide +kernel
theorem dX11_letters_72 : decode cX11_letters 72 = .ok (.iconst 0, 1) := by decide +kernel
theorem dX11_letters_73 : decode cX11_letters 73 = .ok (.goto 4, 3) := by decide +kernel
theorem dX11_letters_76 : decode cX11_letters 76 = .ok (.iconst 1, 1) := by decide +kernel
theorem dX11_letters_77 : decode cX11_letters 77 = .ok (.iadd, 1) := by decide +kernel
theorem dX11_letters_78 : decode cX11_letters 78 = .ok (.istore_n 3, 1) := by decide +kernel
theorem dX11_letters_79 : decode cX11_letters 79 = .ok (.iinc 5 1, 3) := by decide +kernel
theorem dX11_letters_82 : decode cX11_letters 82 = .ok (.goto (-74), 3) := by decide +kernel
theorem dX11_letters_85 : decode cX11_letters 85 = .ok (.aload_n 0, 1) := by decide +kernel
theorem dX11_letters_86 : decode cX11_letters 86 = .ok (.getfield 87, 3) := by decide +kernel
theorem dX11_letters_89 : decode cX11_letters 89 = .ok (.iload_n 3, 1) := by decide +kernel
theorem dX11_letters_90 : decode cX11_letters 90 = .ok (.iadd, 1) := by decide +kernel
theorem dX11_letters_91 : decode cX11_letters 91 = .ok (.bipush 16, 2) := by decide +kernel
theorem dX11_letters_93 : decode cX11_letters 93 = .ok (.if_icmp .le 6, 3) := by decide +kernel
theorem dX11_letters_96 : decode cX11_letters 96 = .ok (.bipush (-104), 2) := by decide +kernel
theorem dX11_letters_98 : decode cX11_letters 98 = .ok (.ireturn, 1) := by decide +kernel
theorem dX11_letters_99 : decode cX11_letters 99 = .ok (.iconst 0, 1) := by decide +kernel
theorem dX11_letters_100 : decode cX11_letters 100 = .ok (.istore 5, 2) := by decide +kernel
theorem dX11_letters_102 : decode cX11_letters 102 = .ok (.iload 5, 2) := by decide +kernel
theorem dX11_letters_104 : decode cX11_letters 104 = .ok (.iload_n 3, 1) := by decide +kernel
theorem dX11_letters_105 : decode cX11_letters 105 = .ok (.if_icmp .ge 30, 3) := by decide +kernel
theorem dX11_letters_108 : decode cX11_letters 108 = .ok (.aload_n 0, 1) := by decide +kernel
theorem dX11_letters_109 : decode cX11_letters 109 = .ok (.getfield 54, 3) := by decide +kernel
theorem dX11_letters_112 : decode cX11_letters 112 = .ok (.aload_n 0, 1) := by decide +kernel
theorem dX11_letters_113 : decode cX11_letters 113 = .ok (.getfield 87, 3) := by decide +kernel
theorem dX11_letters_116 : decode cX11_letters 116 = .ok (.iload 5, 2) := by decide +kernel
theorem dX11_letters_118 : decode cX11_letters 118 = .ok (.iadd, 1) := by decide +kernel
theorem dX11_letters_119 : decode cX11_letters 119 = .ok (.lload_n 1, 1) := by decide +kernel
theorem dX11_letters_120 : decode cX11_letters 120 = .ok (.bipush 8, 2) := by decide +kernel
theorem dX11_letters_122 : decode cX11_letters 122 = .ok (.iload 5, 2) := by decide +kernel
theorem dX11_letters_124 : decode cX11_letters 124 = .ok (.imul, 1) := by decide +kernel
theorem dX11_letters_125 : decode cX11_letters 125 = .ok (.lshr, 1) := by decide +kernel
theorem dX11_letters_126 : decode cX11_letters 126 = .ok (.l2i, 1) := by decide +kernel
theorem dX11_letters_127 : decode cX11_letters 127 = .ok (.i2b, 1) := by decide +kernel
theorem dX11_letters_128 : decode cX11_letters 128 = .ok (.bastore, 1) := by decide +kernel
theorem dX11_letters_129 : decode cX11_letters 129 = .ok (.iinc 5 1, 3) := by decide +kernel
theorem dX11_letters_132 : decode cX11_letters 132 = .ok (.goto (-30), 3) := by decide +kernel
theorem dX11_letters_135 : decode cX11_letters 135 = .ok (.aload_n 0, 1) := by decide +kernel
theorem dX11_letters_136 : decode cX11_letters 136 = .ok (.dup, 1) := by decide +kernel
theorem dX11_letters_137 : decode cX11_letters 137 = .ok (.getfield 87, 3) := by decide +kernel
theorem dX11_letters_140 : decode cX11_letters 140 = .ok (.iload_n 3, 1) := by decide +kernel
theorem dX11_letters_141 : decode cX11_letters 141 = .ok (.iadd, 1) := by decide +kernel
theorem dX11_letters_142 : decode cX11_letters 142 = .ok (.putfield 87, 3) := by decide +kernel
theorem dX11_letters_145 : decode cX11_letters 145 = .ok (.aload_n 0, 1) := by decide +kernel
theorem dX11_letters_146 : decode cX11_letters 146 = .ok (.getfield 87, 3) := by decide +kernel
theorem dX11_letters_149 : decode cX11_letters 149 = .ok (.ireturn, 1) := by decide +kernel
theorem dX11_blank_0 : decode cX11_blank 0 = .ok (.aload_n 0, 1) := by decide +kernel
theorem dX11_blank_1 : decode cX11_blank 1 = .ok (.getfield 87, 3) := by decide +kernel
theorem dX11_blank_4 : decode cX11_blank 4 = .ok (.istore_n 1, 1) := by decide +kernel
theorem dX11_blank_5 : decode cX11_blank 5 = .ok (.aload_n 0, 1) := by decide +kernel
theorem dX11_blank_6 : decode cX11_blank 6 = .ok (.iconst 0, 1) := by decide +kernel
theorem dX11_blank_7 : decode cX11_blank 7 = .ok (.putfield 87, 3) := by decide +kernel
theorem dX11_blank_10 : decode cX11_blank 10 = .ok (.iload_n 1, 1) := by decide +kernel
theorem dX11_blank_11 : decode cX11_blank 11 = .ok (.ireturn, 1) := by decide +kernel
theorem dX11_nextState_0 : decode cX11_nextState 0 = .ok (.iload_n 2, 1) := by decide +kernel
theorem dX11_nextState_1 : decode cX11_nextState 1 = .ok (.bipush 49, 2) := by decide +kernel
theorem dX11_nextState_3 : decode cX11_nextState 3 = .ok (.bipush 57, 2) := by decide +kernel
theorem dX11_nextState_5 : decode cX11_nextState 5 = .ok (.invokestatic 90, 3) := by decide +kernel
theorem dX11_nextState_8 : decode cX11_nextState 8 = .ok (.istore_n 3, 1) := by decide +kernel
theorem dX11_nextState_9 : decode cX11_nextState 9 = .ok (.iload_n 1, 1) := by decide +kernel
theorem dX11_nextState_10 : decode cX11_nextState 10 = .ok (.tableswitch 164 0 5 #[38, 71, 87, 116, 122, 134], 38) := by decide +kernel
theorem dX11_nextState_48 : decode cX11_nextState 48 = .ok (.aload_n 0, 1) := by decide +kernel
theorem dX11_nextState_49 : decode cX11_nextState 49 = .ok (.iload_n 2, 1) := by decide +kernel
theorem dX11_nextState_50 : decode cX11_nextState 50 = .ok (.bipush 108, 2) := by decide +kernel
theorem dX11_nextState_52 : decode cX11_nextState 52 = .ok (.if_icmp .ne 7, 3) := by decide +kernel
theorem dX11_nextState_55 : decode cX11_nextState 55 = .ok (.iconst 1, 1) := by decide +kernel
theorem dX11_nextState_56 : decode cX11_nextState 56 = .ok (.goto 4, 3) := by decide +kernel
theorem dX11_nextState_59 : decode cX11_nextState 59 = .ok (.iconst 0, 1) := by decide +kernel
theorem dX11_nextState_60 : decode cX11_nextState 60 = .ok (.putfield 94, 3) := by decide +kernel
theorem dX11_nextState_63 : decode cX11_nextState 63 = .ok (.iload_n 2, 1) := by decide +kernel
theorem dX11_nextState_64 : decode cX11_nextState 64 = .ok (.bipush 108, 2) := by decide +kernel
theorem dX11_nextState_66 : decode cX11_nextState 66 = .ok (.if_icmp .eq 9, 3) := by decide +kernel
theorem dX11_nextState_69 : decode cX11_nextState 69 = .ok (.iload_n 2, 1) := by decide +kernel
theorem dX11_nextState_70 : decode cX11_nextState 70 = .ok (.bipush 114, 2) := by decide +kernel
theorem dX11_nextState_72 : decode cX11_nextState 72 = .ok (.if_icmp .ne 7, 3) := by decide +kernel
theorem dX11_nextState_75 : decode cX11_nextState 75 = .ok (.iconst 1, 1) := by decide +kernel
theorem dX11_nextState_76 : decode cX11_nextState 76 = .ok (.goto 4, 3) := by decide +kernel
theorem dX11_nextState_79 : decode cX11_nextState 79 = .ok (.iconst (-1), 1) := by decide +kernel
theorem dX11_nextState_80 : decode cX11_nextState 80 = .ok (.ireturn, 1) := by decide +kernel
theorem dX11_nextState_81 : decode cX11_nextState 81 = .ok (.iload_n 2, 1) := by decide +kernel
theorem dX11_nextState_82 : decode cX11_nextState 82 = .ok (.bipush 116, 2) := by decide +kernel
theorem dX11_nextState_84 : decode cX11_nextState 84 = .ok (.if_icmp .ne 7, 3) := by decide +kernel
theorem dX11_nextState_87 : decode cX11_nextState 87 = .ok (.iconst 2, 1) := by decide +kernel
theorem dX11_nextState_88 : decode cX11_nextState 88 = .ok (.goto 8, 3) := by decide +kernel
theorem dX11_nextState_91 : decode cX11_nextState 91 = .ok (.aload_n 0, 1) := by decide +kernel
theorem dX11_nextState_92 : decode cX11_nextState 92 = .ok (.iload_n 2, 1) := by decide +kernel
theorem dX11_nextState_93 : decode cX11_nextState 93 = .ok (.invokevirtual 98, 3) := by decide +kernel
theorem dX11_nextState_96 : decode cX11_nextState 96 = .ok (.ireturn, 1) := by decide +kernel
theorem dX11_nextState_97 : decode cX11_nextState 97 = .ok (.aload_n 0, 1) := by decide +kernel
theorem dX11_nextState_98 : decode cX11_nextState 98 = .ok (.iload_n 3, 1) := by decide +kernel
theorem dX11_nextState_99 : decode cX11_nextState 99 = .ok (.ifCond .eq 10, 3) := by decide +kernel
theorem dX11_nextState_102 : decode cX11_nextState 102 = .ok (.iload_n 2, 1) := by decide +kernel
theorem dX11_nextState_103 : decode cX11_nextState 103 = .ok (.bipush 48, 2) := by decide +kernel
theorem dX11_nextState_105 : decode cX11_nextState 105 = .ok (.isub, 1) := by decide +kernel
theorem dX11_nextState_106 : decode cX11_nextState 106 = .ok (.goto 7, 3) := by decide +kernel
theorem dX11_nextState_109 : decode cX11_nextState 109 = .ok (.aload_n 0, 1) := by decide +kernel
theorem dX11_nextState_110 : decode cX11_nextState 110 = .ok (.getfield 102, 3) := by decide +kernel
theorem dX11_nextState_113 : decode cX11_nextState 113 = .ok (.putfield 102, 3) := by decide +kernel
theorem dX11_nextState_116 : decode cX11_nextState 116 = .ok (.iload_n 3, 1) := by decide +kernel
theorem dX11_nextState_117 : decode cX11_nextState 117 = .ok (.ifCond .eq 7, 3) := by decide +kernel
theorem dX11_nextState_120 : decode cX11_nextState 120 = .ok (.iconst 3, 1) := by decide +kernel
theorem dX11_nextState_121 : decode cX11_nextState 121 = .ok (.goto 4, 3) := by decide +kernel
theorem dX11_nextState_124 : decode cX11_nextState 124 = .ok (.iconst (-1), 1) := by decide +kernel
theorem dX11_nextState_125 : decode cX11_nextState 125 = .ok (.ireturn, 1) := by decide +kernel
theorem dX11_nextState_126 : decode cX11_nextState 126 = .ok (.aload_n 0, 1) := by decide +kernel
theorem dX11_nextState_127 : decode cX11_nextState 127 = .ok (.iload_n 2, 1) := by decide +kernel
theorem dX11_nextState_128 : decode cX11_nextState 128 = .ok (.invokevirtual 98, 3) := by decide +kernel
theorem dX11_nextState_131 : decode cX11_nextState 131 = .ok (.ireturn, 1) := by decide +kernel
theorem dX11_nextState_132 : decode cX11_nextState 132 = .ok (.iload_n 2, 1) := by decide +kernel
theorem dX11_nextState_133 : decode cX11_nextState 133 = .ok (.bipush 120, 2) := by decide +kernel
theorem dX11_nextState_135 : decode cX11_nextState 135 = .ok (.if_icmp .ne 7, 3) := by decide +kernel
theorem dX11_nextState_138 : decode cX11_nextState 138 = .ok (.iconst 5, 1) := by decide +kernel
theorem dX11_nextState_139 : decode cX11_nextState 139 = .ok (.goto 4, 3) := by decide +kernel
theorem dX11_nextState_142 : decode cX11_nextState 142 = .ok (.iconst (-1), 1) := by decide +kernel
theorem dX11_nextState_143 : decode cX11_nextState 143 = .ok (.ireturn, 1) := by decide +kernel
theorem dX11_nextState_144 : decode cX11_nextState 144 = .ok (.aload_n 0, 1) := by decide +kernel
theorem dX11_nextState_145 : decode cX11_nextState 145 = .ok (.iload_n 3, 1) := by decide +kernel
theorem dX11_nextState_146 : decode cX11_nextState 146 = .ok (.ifCond .eq 10, 3) := by decide +kernel
theorem dX11_nextState_149 : decode cX11_nextState 149 = .ok (.iload_n 2, 1) := by decide +kernel
theorem dX11_nextState_150 : decode cX11_nextState 150 = .ok (.bipush 48, 2) := by decide +kernel
theorem dX11_nextState_152 : decode cX11_nextState 152 = .ok (.isub, 1) := by decide +kernel
theorem dX11_nextState_153 : decode cX11_nextState 153 = .ok (.goto 7, 3) := by decide +kernel
theorem dX11_nextState_156 : decode cX11_nextState 156 = .ok (.aload_n 0, 1) := by decide +kernel
theorem dX11_nextState_157 : decode cX11_nextState 157 = .ok (.getfield 105, 3) := by decide +kernel
theorem dX11_nextState_160 : decode cX11_nextState 160 = .ok (.putfield 105, 3) := by decide +kernel
theorem dX11_nextState_163 : decode cX11_nextState 163 = .ok (.iload_n 3, 1) := by decide +kernel
theorem dX11_nextState_164 : decode cX11_nextState 164 = .ok (.ifCond .eq 8, 3) := by decide +kernel
theorem dX11_nextState_167 : decode cX11_nextState 167 = .ok (.bipush 6, 2) := by decide +kernel
theorem dX11_nextState_169 : decode cX11_nextState 169 = .ok (.goto 4, 3) := by decide +kernel
theorem dX11_nextState_172 : decode cX11_nextState 172 = .ok (.iconst (-1), 1) := by decide +kernel
theorem dX11_nextState_173 : decode cX11_nextState 173 = .ok (.ireturn, 1) := by decide +kernel
theorem dX11_nextState_174 : decode cX11_nextState 174 = .ok (.iconst (-1), 1) := by decide +kernel
theorem dX11_nextState_175 : decode cX11_nextState 175 = .ok (.ireturn, 1) := by decide +kernel
theorem dX11_afterTurns_0 : decode cX11_afterTurns 0 = .ok (.aload_n 0, 1) := by decide +kernel
theorem dX11_afterTurns_1 : decode cX11_afterTurns 1 = .ok (.iload_n 1, 1) := by decide +kernel
theorem dX11_afterTurns_2 : decode cX11_afterTurns 2 = .ok (.bipush 100, 2) := by decide +kernel
theorem dX11_afterTurns_4 : decode cX11_afterTurns 4 = .ok (.if_icmp .ne 7, 3) := by decide +kernel
theorem dX11_afterTurns_7 : decode cX11_afterTurns 7 = .ok (.iconst 1, 1) := by decide +kernel
theorem dX11_afterTurns_8 : decode cX11_afterTurns 8 = .ok (.goto 4, 3) := by decide +kernel
theorem dX11_afterTurns_11 : decode cX11_afterTurns 11 = .ok (.iconst 0, 1) := by decide +kernel
theorem dX11_afterTurns_12 : decode cX11_afterTurns 12 = .ok (.putfield 108, 3) := by decide +kernel
theorem dX11_afterTurns_15 : decode cX11_afterTurns 15 = .ok (.iload_n 1, 1) := by decide +kernel
theorem dX11_afterTurns_16 : decode cX11_afterTurns 16 = .ok (.bipush 100, 2) := by decide +kernel
theorem dX11_afterTurns_18 : decode cX11_afterTurns 18 = .ok (.if_icmp .ne 7, 3) := by decide +kernel
theorem dX11_afterTurns_21 : decode cX11_afterTurns 21 = .ok (.iconst 4, 1) := by decide +kernel
theorem dX11_afterTurns_22 : decode cX11_afterTurns 22 = .ok (.goto 14, 3) := by decide +kernel
theorem dX11_afterTurns_25 : decode cX11_afterTurns 25 = .ok (.iload_n 1, 1) := by decide +kernel
theorem dX11_afterTurns_26 : decode cX11_afterTurns 26 = .ok (.bipush 120, 2) := by decide +kernel
theorem dX11_afterTurns_28 : decode cX11_afterTurns 28 = .ok (.if_icmp .ne 7, 3) := by decide +kernel
theorem dX11_afterTurns_31 : decode cX11_afterTurns 31 = .ok (.iconst 5, 1) := by decide +kernel
theorem dX11_afterTurns_32 : decode cX11_afterTurns 32 = .ok (.goto 4, 3) := by decide +kernel
theorem dX11_afterTurns_35 : decode cX11_afterTurns 35 = .ok (.iconst (-1), 1) := by decide +kernel
theorem dX11_afterTurns_36 : decode cX11_afterTurns 36 = .ok (.ireturn, 1) := by decide +kernel
theorem dX11_readVow_0 : decode cX11_readVow 0 = .ok (.aload_n 0, 1) := by decide +kernel
theorem dX11_readVow_1 : decode cX11_readVow 1 = .ok (.iconst 0, 1) := by decide +kernel
theorem dX11_readVow_2 : decode cX11_readVow 2 = .ok (.putfield 102, 3) := by decide +kernel
theorem dX11_readVow_5 : decode cX11_readVow 5 = .ok (.aload_n 0, 1) := by decide +kernel
theorem dX11_readVow_6 : decode cX11_readVow 6 = .ok (.iconst 0, 1) := by decide +kernel
theorem dX11_readVow_7 : decode cX11_readVow 7 = .ok (.putfield 108, 3) := by decide +kernel
theorem dX11_readVow_10 : decode cX11_readVow 10 = .ok (.aload_n 0, 1) := by decide +kernel
theorem dX11_readVow_11 : decode cX11_readVow 11 = .ok (.iconst 0, 1) := by decide +kernel
theorem dX11_readVow_12 : decode cX11_readVow 12 = .ok (.putfield 105, 3) := by decide +kernel
theorem dX11_readVow_15 : decode cX11_readVow 15 = .ok (.iconst 0, 1) := by decide +kernel
theorem dX11_readVow_16 : decode cX11_readVow 16 = .ok (.istore_n 1, 1) := by decide +kernel
theorem dX11_readVow_17 : decode cX11_readVow 17 = .ok (.iconst 0, 1) := by decide +kernel
theorem dX11_readVow_18 : decode cX11_readVow 18 = .ok (.istore_n 2, 1) := by decide +kernel
theorem dX11_readVow_19 : decode cX11_readVow 19 = .ok (.iconst 1, 1) := by decide +kernel
theorem dX11_readVow_20 : decode cX11_readVow 20 = .ok (.istore_n 3, 1) := by decide +kernel
theorem dX11_readVow_21 : decode cX11_readVow 21 = .ok (.iload_n 2, 1) := by decide +kernel
theorem dX11_readVow_22 : decode cX11_readVow 22 = .ok (.aload_n 0, 1) := by decide +kernel
theorem dX11_readVow_23 : decode cX11_readVow 23 = .ok (.getfield 87, 3) := by decide +kernel
theorem dX11_readVow_26 : decode cX11_readVow 26 = .ok (.if_icmp .ge 94, 3) := by decide +kernel
theorem dX11_readVow_29 : decode cX11_readVow 29 = .ok (.iload_n 3, 1) := by decide +kernel
theorem dX11_readVow_30 : decode cX11_readVow 30 = .ok (.ifCond .eq 90, 3) := by decide +kernel
theorem dX11_readVow_33 : decode cX11_readVow 33 = .ok (.aload_n 0, 1) := by decide +kernel
theorem dX11_readVow_34 : decode cX11_readVow 34 = .ok (.getfield 108, 3) := by decide +kernel
theorem dX11_readVow_37 : decode cX11_readVow 37 = .ok (.istore 4, 2) := by decide +kernel
theorem dX11_readVow_39 : decode cX11_readVow 39 = .ok (.aload_n 0, 1) := by decide +kernel
theorem dX11_readVow_40 : decode cX11_readVow 40 = .ok (.iload_n 1, 1) := by decide +kernel
theorem dX11_readVow_41 : decode cX11_readVow 41 = .ok (.aload_n 0, 1) := by decide +kernel
theorem dX11_readVow_42 : decode cX11_readVow 42 = .ok (.getfield 54, 3) := by decide +kernel
theorem dX11_readVow_45 : decode cX11_readVow 45 = .ok (.iload_n 2, 1) := by decide +kernel
theorem dX11_readVow_46 : decode cX11_readVow 46 = .ok (.baload, 1) := by decide +kernel
theorem dX11_readVow_47 : decode cX11_readVow 47 = .ok (.invokevirtual 111, 3) := by decide +kernel
theorem dX11_readVow_50 : decode cX11_readVow 50 = .ok (.istore 5, 2) := by decide +kernel
theorem dX11_readVow_52 : decode cX11_readVow 52 = .ok (.iload 5, 2) := by decide +kernel
theorem dX11_readVow_54 : decode cX11_readVow 54 = .ok (.iconst (-1), 1) := by decide +kernel
theorem dX11_readVow_55 : decode cX11_readVow 55 = .ok (.if_icmp .eq 7, 3) := by decide +kernel
theorem dX11_readVow_58 : decode cX11_readVow 58 = .ok (.iconst 1, 1) := by decide +kernel
theorem dX11_readVow_59 : decode cX11_readVow 59 = .ok (.goto 4, 3) := by decide +kernel
theorem dX11_readVow_62 : decode cX11_readVow 62 = .ok (.iconst 0, 1) := by decide +kernel
theorem dX11_readVow_63 : decode cX11_readVow 63 = .ok (.istore_n 3, 1) := by decide +kernel
theorem dX11_readVow_64 : decode cX11_readVow 64 = .ok (.aload_n 0, 1) := by decide +kernel
theorem dX11_readVow_65 : decode cX11_readVow 65 = .ok (.iload_n 3, 1) := by decide +kernel
theorem dX11_readVow_66 : decode cX11_readVow 66 = .ok (.ifCond .eq 23, 3) := by decide +kernel
theorem dX11_readVow_69 : decode cX11_readVow 69 = .ok (.aload_n 0, 1) := by decide +kernel
theorem dX11_readVow_70 : decode cX11_readVow 70 = .ok (.getfield 108, 3) := by decide +kernel
theorem dX11_readVow_73 : decode cX11_readVow 73 = .ok (.ifCond .ne 8, 3) := by decide +kernel
theorem dX11_readVow_76 : decode cX11_readVow 76 = .ok (.iload 4, 2) := by decide +kernel
theorem dX11_readVow_78 : decode cX11_readVow 78 = .ok (.ifCond .eq 7, 3) := by decide +kernel
theorem dX11_readVow_81 : decode cX11_readVow 81 = .ok (.iconst 1, 1) := by decide +kernel
theorem dX11_readVow_82 : decode cX11_readVow 82 = .ok (.goto 9, 3) := by decide +kernel
theorem dX11_readVow_85 : decode cX11_readVow 85 = .ok (.iconst 0, 1) := by decide +kernel
theorem dX11_readVow_86 : decode cX11_readVow 86 = .ok (.goto 5, 3) := by decide +kernel
theorem dX11_readVow_89 : decode cX11_readVow 89 = .ok (.iload 4, 2) := by decide +kernel
theorem dX11_readVow_91 : decode cX11_readVow 91 = .ok (.putfield 108, 3) := by decide +kernel
theorem dX11_readVow_94 : decode cX11_readVow 94 = .ok (.iload_n 3, 1) := by decide +kernel
theorem dX11_readVow_95 : decode cX11_readVow 95 = .ok (.ifCond .eq 8, 3) := by decide +kernel
theorem dX11_readVow_98 : decode cX11_readVow 98 = .ok (.iload 5, 2) := by decide +kernel
theorem dX11_readVow_100 : decode cX11_readVow 100 = .ok (.goto 4, 3) := by decide +kernel
theorem dX11_readVow_103 : decode cX11_readVow 103 = .ok (.iload_n 1, 1) := by decide +kernel
theorem dX11_readVow_104 : decode cX11_readVow 104 = .ok (.istore_n 1, 1) := by decide +kernel
theorem dX11_readVow_105 : decode cX11_readVow 105 = .ok (.iload_n 2, 1) := by decide +kernel
theorem dX11_readVow_106 : decode cX11_readVow 106 = .ok (.iload_n 3, 1) := by decide +kernel
theorem dX11_readVow_107 : decode cX11_readVow 107 = .ok (.ifCond .eq 7, 3) := by decide +kernel
theorem dX11_readVow_110 : decode cX11_readVow 110 = .ok (.iconst 1, 1) := by decide +kernel
theorem dX11_readVow_111 : decode cX11_readVow 111 = .ok (.goto 4, 3) := by decide +kernel
theorem dX11_readVow_114 : decode cX11_readVow 114 = .ok (.iconst 0, 1) := by decide +kernel
theorem dX11_readVow_115 : decode cX11_readVow 115 = .ok (.iadd, 1) := by decide +kernel
theorem dX11_readVow_116 : decode cX11_readVow 116 = .ok (.istore_n 2, 1) := by decide +kernel
theorem dX11_readVow_117 : decode cX11_readVow 117 = .ok (.goto (-96), 3) := by decide +kernel
theorem dX11_readVow_120 : decode cX11_readVow 120 = .ok (.aload_n 0, 1) := by decide +kernel
theorem dX11_readVow_121 : decode cX11_readVow 121 = .ok (.iload_n 2, 1) := by decide +kernel
theorem dX11_readVow_122 : decode cX11_readVow 122 = .ok (.putfield 115, 3) := by decide +kernel
theorem dX11_readVow_125 : decode cX11_readVow 125 = .ok (.aload_n 0, 1) := by decide +kernel
theorem dX11_readVow_126 : decode cX11_readVow 126 = .ok (.iload_n 2, 1) := by decide +kernel
theorem dX11_readVow_127 : decode cX11_readVow 127 = .ok (.aload_n 0, 1) := by decide +kernel
theorem dX11_readVow_128 : decode cX11_readVow 128 = .ok (.getfield 87, 3) := by decide +kernel
theorem dX11_readVow_131 : decode cX11_readVow 131 = .ok (.if_icmp .ne 28, 3) := by decide +kernel
theorem dX11_readVow_134 : decode cX11_readVow 134 = .ok (.iload_n 1, 1) := by decide +kernel
theorem dX11_readVow_135 : decode cX11_readVow 135 = .ok (.iconst 1, 1) := by decide +kernel
theorem dX11_readVow_136 : decode cX11_readVow 136 = .ok (.if_icmp .eq 19, 3) := by decide +kernel
theorem dX11_readVow_139 : decode cX11_readVow 139 = .ok (.iload_n 1, 1) := by decide +kernel
theorem dX11_readVow_140 : decode cX11_readVow 140 = .ok (.iconst 3, 1) := by decide +kernel
theorem dX11_readVow_141 : decode cX11_readVow 141 = .ok (.if_icmp .eq 14, 3) := by decide +kernel
theorem dX11_readVow_144 : decode cX11_readVow 144 = .ok (.iload_n 1, 1) := by decide +kernel
theorem dX11_readVow_145 : decode cX11_readVow 145 = .ok (.iconst 4, 1) := by decide +kernel
theorem dX11_readVow_146 : decode cX11_readVow 146 = .ok (.if_icmp .eq 9, 3) := by decide +kernel
theorem dX11_readVow_149 : decode cX11_readVow 149 = .ok (.iload_n 1, 1) := by decide +kernel
theorem dX11_readVow_150 : decode cX11_readVow 150 = .ok (.bipush 6, 2) := by decide +kernel
theorem dX11_readVow_152 : decode cX11_readVow 152 = .ok (.if_icmp .ne 7, 3) := by decide +kernel
theorem dX11_readVow_155 : decode cX11_readVow 155 = .ok (.iconst 1, 1) := by decide +kernel
theorem dX11_readVow_156 : decode cX11_readVow 156 = .ok (.goto 4, 3) := by decide +kernel
theorem dX11_readVow_159 : decode cX11_readVow 159 = .ok (.iconst 0, 1) := by decide +kernel
theorem dX11_readVow_160 : decode cX11_readVow 160 = .ok (.putfield 118, 3) := by decide +kernel
theorem dX11_readVow_163 : decode cX11_readVow 163 = .ok (.return_, 1) := by decide +kernel
theorem dX11_fault_0 : decode cX11_fault 0 = .ok (.aload_n 0, 1) := by decide +kernel
theorem dX11_fault_1 : decode cX11_fault 1 = .ok (.invokevirtual 121, 3) := by decide +kernel
theorem dX11_fault_4 : decode cX11_fault 4 = .ok (.aload_n 0, 1) := by decide +kernel
theorem dX11_fault_5 : decode cX11_fault 5 = .ok (.getfield 115, 3) := by decide +kernel
theorem dX11_fault_8 : decode cX11_fault 8 = .ok (.ireturn, 1) := by decide +kernel
theorem dX11_vow_0 : decode cX11_vow 0 = .ok (.aload_n 0, 1) := by decide +kernel
theorem dX11_vow_1 : decode cX11_vow 1 = .ok (.invokevirtual 121, 3) := by decide +kernel
theorem dX11_vow_4 : decode cX11_vow 4 = .ok (.aload_n 0, 1) := by decide +kernel
theorem dX11_vow_5 : decode cX11_vow 5 = .ok (.getfield 118, 3) := by decide +kernel
theorem dX11_vow_8 : decode cX11_vow 8 = .ok (.ifCond .ne 6, 3) := by decide +kernel
theorem dX11_vow_11 : decode cX11_vow 11 = .ok (.bipush (-103), 2) := by decide +kernel
theorem dX11_vow_13 : decode cX11_vow 13 = .ok (.ireturn, 1) := by decide +kernel
theorem dX11_vow_14 : decode cX11_vow 14 = .ok (.aload_n 0, 1) := by decide +kernel
theorem dX11_vow_15 : decode cX11_vow 15 = .ok (.getfield 124, 3) := by decide +kernel
theorem dX11_vow_18 : decode cX11_vow 18 = .ok (.bipush 6, 2) := by decide +kernel
theorem dX11_vow_20 : decode cX11_vow 20 = .ok (.if_icmp .ne 6, 3) := by decide +kernel
theorem dX11_vow_23 : decode cX11_vow 23 = .ok (.bipush (-104), 2) := by decide +kernel
theorem dX11_vow_25 : decode cX11_vow 25 = .ok (.ireturn, 1) := by decide +kernel
theorem dX11_vow_26 : decode cX11_vow 26 = .ok (.aload_n 0, 1) := by decide +kernel
theorem dX11_vow_27 : decode cX11_vow 27 = .ok (.getfield 41, 3) := by decide +kernel
theorem dX11_vow_30 : decode cX11_vow 30 = .ok (.aload_n 0, 1) := by decide +kernel
theorem dX11_vow_31 : decode cX11_vow 31 = .ok (.getfield 124, 3) := by decide +kernel
theorem dX11_vow_34 : decode cX11_vow 34 = .ok (.aload_n 0, 1) := by decide +kernel
theorem dX11_vow_35 : decode cX11_vow 35 = .ok (.getfield 94, 3) := by decide +kernel
theorem dX11_vow_38 : decode cX11_vow 38 = .ok (.bastore, 1) := by decide +kernel
theorem dX11_vow_39 : decode cX11_vow 39 = .ok (.aload_n 0, 1) := by decide +kernel
theorem dX11_vow_40 : decode cX11_vow 40 = .ok (.getfield 45, 3) := by decide +kernel
theorem dX11_vow_43 : decode cX11_vow 43 = .ok (.aload_n 0, 1) := by decide +kernel
theorem dX11_vow_44 : decode cX11_vow 44 = .ok (.getfield 124, 3) := by decide +kernel
theorem dX11_vow_47 : decode cX11_vow 47 = .ok (.aload_n 0, 1) := by decide +kernel
theorem dX11_vow_48 : decode cX11_vow 48 = .ok (.getfield 102, 3) := by decide +kernel
theorem dX11_vow_51 : decode cX11_vow 51 = .ok (.iastore, 1) := by decide +kernel
theorem dX11_vow_52 : decode cX11_vow 52 = .ok (.aload_n 0, 1) := by decide +kernel
theorem dX11_vow_53 : decode cX11_vow 53 = .ok (.getfield 48, 3) := by decide +kernel
theorem dX11_vow_56 : decode cX11_vow 56 = .ok (.aload_n 0, 1) := by decide +kernel
theorem dX11_vow_57 : decode cX11_vow 57 = .ok (.getfield 124, 3) := by decide +kernel
theorem dX11_vow_60 : decode cX11_vow 60 = .ok (.aload_n 0, 1) := by decide +kernel
theorem dX11_vow_61 : decode cX11_vow 61 = .ok (.getfield 108, 3) := by decide +kernel
theorem dX11_vow_64 : decode cX11_vow 64 = .ok (.bastore, 1) := by decide +kernel
theorem dX11_vow_65 : decode cX11_vow 65 = .ok (.aload_n 0, 1) := by decide +kernel
theorem dX11_vow_66 : decode cX11_vow 66 = .ok (.getfield 51, 3) := by decide +kernel
theorem dX11_vow_69 : decode cX11_vow 69 = .ok (.aload_n 0, 1) := by decide +kernel
theorem dX11_vow_70 : decode cX11_vow 70 = .ok (.getfield 124, 3) := by decide +kernel
theorem dX11_vow_73 : decode cX11_vow 73 = .ok (.aload_n 0, 1) := by decide +kernel
theorem dX11_vow_74 : decode cX11_vow 74 = .ok (.getfield 105, 3) := by decide +kernel
theorem dX11_vow_77 : decode cX11_vow 77 = .ok (.iastore, 1) := by decide +kernel
theorem dX11_vow_78 : decode cX11_vow 78 = .ok (.aload_n 0, 1) := by decide +kernel
theorem dX11_vow_79 : decode cX11_vow 79 = .ok (.dup, 1) := by decide +kernel
theorem dX11_vow_80 : decode cX11_vow 80 = .ok (.getfield 124, 3) := by decide +kernel
theorem dX11_vow_83 : decode cX11_vow 83 = .ok (.iconst 1, 1) := by decide +kernel
theorem dX11_vow_84 : decode cX11_vow 84 = .ok (.iadd, 1) := by decide +kernel
theorem dX11_vow_85 : decode cX11_vow 85 = .ok (.putfield 124, 3) := by decide +kernel
theorem dX11_vow_88 : decode cX11_vow 88 = .ok (.aload_n 0, 1) := by decide +kernel
theorem dX11_vow_89 : decode cX11_vow 89 = .ok (.iconst 0, 1) := by decide +kernel
theorem dX11_vow_90 : decode cX11_vow 90 = .ok (.putfield 87, 3) := by decide +kernel
theorem dX11_vow_93 : decode cX11_vow 93 = .ok (.aload_n 0, 1) := by decide +kernel
theorem dX11_vow_94 : decode cX11_vow 94 = .ok (.getfield 124, 3) := by decide +kernel
theorem dX11_vow_97 : decode cX11_vow 97 = .ok (.iconst 1, 1) := by decide +kernel
theorem dX11_vow_98 : decode cX11_vow 98 = .ok (.isub, 1) := by decide +kernel
theorem dX11_vow_99 : decode cX11_vow 99 = .ok (.ireturn, 1) := by decide +kernel
theorem dX11_isVow_0 : decode cX11_isVow 0 = .ok (.iload_n 1, 1) := by decide +kernel
theorem dX11_isVow_1 : decode cX11_isVow 1 = .ok (.iconst 0, 1) := by decide +kernel
theorem dX11_isVow_2 : decode cX11_isVow 2 = .ok (.aload_n 0, 1) := by decide +kernel
theorem dX11_isVow_3 : decode cX11_isVow 3 = .ok (.getfield 124, 3) := by decide +kernel
theorem dX11_isVow_6 : decode cX11_isVow 6 = .ok (.iconst 1, 1) := by decide +kernel
theorem dX11_isVow_7 : decode cX11_isVow 7 = .ok (.isub, 1) := by decide +kernel
theorem dX11_isVow_8 : decode cX11_isVow 8 = .ok (.invokestatic 90, 3) := by decide +kernel
theorem dX11_isVow_11 : decode cX11_isVow 11 = .ok (.ireturn, 1) := by decide +kernel
theorem dX11_vowNow_0 : decode cX11_vowNow 0 = .ok (.iload_n 2, 1) := by decide +kernel
theorem dX11_vowNow_1 : decode cX11_vowNow 1 = .ok (.tableswitch 64 0 2 #[27, 42, 49], 27) := by decide +kernel
theorem dX11_vowNow_28 : decode cX11_vowNow 28 = .ok (.aload_n 0, 1) := by decide +kernel
theorem dX11_vowNow_29 : decode cX11_vowNow 29 = .ok (.getfield 41, 3) := by decide +kernel
theorem dX11_vowNow_32 : decode cX11_vowNow 32 = .ok (.iload_n 1, 1) := by decide +kernel
theorem dX11_vowNow_33 : decode cX11_vowNow 33 = .ok (.baload, 1) := by decide +kernel
theorem dX11_vowNow_34 : decode cX11_vowNow 34 = .ok (.ifCond .eq 7, 3) := by decide +kernel
theorem dX11_vowNow_37 : decode cX11_vowNow 37 = .ok (.iconst 1, 1) := by decide +kernel
theorem dX11_vowNow_38 : decode cX11_vowNow 38 = .ok (.goto 4, 3) := by decide +kernel
theorem dX11_vowNow_41 : decode cX11_vowNow 41 = .ok (.iconst 0, 1) := by decide +kernel
theorem dX11_vowNow_42 : decode cX11_vowNow 42 = .ok (.ireturn, 1) := by decide +kernel
theorem dX11_vowNow_43 : decode cX11_vowNow 43 = .ok (.aload_n 0, 1) := by decide +kernel
theorem dX11_vowNow_44 : decode cX11_vowNow 44 = .ok (.getfield 45, 3) := by decide +kernel
theorem dX11_vowNow_47 : decode cX11_vowNow 47 = .ok (.iload_n 1, 1) := by decide +kernel
theorem dX11_vowNow_48 : decode cX11_vowNow 48 = .ok (.iaload, 1) := by decide +kernel
theorem dX11_vowNow_49 : decode cX11_vowNow 49 = .ok (.ireturn, 1) := by decide +kernel
theorem dX11_vowNow_50 : decode cX11_vowNow 50 = .ok (.aload_n 0, 1) := by decide +kernel
theorem dX11_vowNow_51 : decode cX11_vowNow 51 = .ok (.getfield 48, 3) := by decide +kernel
theorem dX11_vowNow_54 : decode cX11_vowNow 54 = .ok (.iload_n 1, 1) := by decide +kernel
theorem dX11_vowNow_55 : decode cX11_vowNow 55 = .ok (.baload, 1) := by decide +kernel
theorem dX11_vowNow_56 : decode cX11_vowNow 56 = .ok (.ifCond .eq 7, 3) := by decide +kernel
theorem dX11_vowNow_59 : decode cX11_vowNow 59 = .ok (.iconst 1, 1) := by decide +kernel
theorem dX11_vowNow_60 : decode cX11_vowNow 60 = .ok (.goto 4, 3) := by decide +kernel
theorem dX11_vowNow_63 : decode cX11_vowNow 63 = .ok (.iconst 0, 1) := by decide +kernel
theorem dX11_vowNow_64 : decode cX11_vowNow 64 = .ok (.ireturn, 1) := by decide +kernel
theorem dX11_vowNow_65 : decode cX11_vowNow 65 = .ok (.aload_n 0, 1) := by decide +kernel
theorem dX11_vowNow_66 : decode cX11_vowNow 66 = .ok (.getfield 51, 3) := by decide +kernel
theorem dX11_vowNow_69 : decode cX11_vowNow 69 = .ok (.iload_n 1, 1) := by decide +kernel
theorem dX11_vowNow_70 : decode cX11_vowNow 70 = .ok (.iaload, 1) := by decide +kernel
theorem dX11_vowNow_71 : decode cX11_vowNow 71 = .ok (.ireturn, 1) := by decide +kernel
theorem dX11_vowTold_0 : decode cX11_vowTold 0 = .ok (.aload_n 0, 1) := by decide +kernel
theorem dX11_vowTold_1 : decode cX11_vowTold 1 = .ok (.iload_n 1, 1) := by decide +kernel
theorem dX11_vowTold_2 : decode cX11_vowTold 2 = .ok (.invokevirtual 127, 3) := by decide +kernel
theorem dX11_vowTold_5 : decode cX11_vowTold 5 = .ok (.ifCond .ne 8, 3) := by decide +kernel
theorem dX11_vowTold_8 : decode cX11_vowTold 8 = .ok (.bipush (-101), 2) := by decide +kernel
theorem dX11_vowTold_10 : decode cX11_vowTold 10 = .ok (.goto 23, 3) := by decide +kernel
theorem dX11_vowTold_13 : decode cX11_vowTold 13 = .ok (.iload_n 2, 1) := by decide +kernel
theorem dX11_vowTold_14 : decode cX11_vowTold 14 = .ok (.iconst 0, 1) := by decide +kernel
theorem dX11_vowTold_15 : decode cX11_vowTold 15 = .ok (.iconst 3, 1) := by decide +kernel
theorem dX11_vowTold_16 : decode cX11_vowTold 16 = .ok (.invokestatic 90, 3) := by decide +kernel
theorem dX11_vowTold_19 : decode cX11_vowTold 19 = .ok (.ifCond .eq 12, 3) := by decide +kernel
theorem dX11_vowTold_22 : decode cX11_vowTold 22 = .ok (.aload_n 0, 1) := by decide +kernel
theorem dX11_vowTold_23 : decode cX11_vowTold 23 = .ok (.iload_n 1, 1) := by decide +kernel
theorem dX11_vowTold_24 : decode cX11_vowTold 24 = .ok (.iload_n 2, 1) := by decide +kernel
theorem dX11_vowTold_25 : decode cX11_vowTold 25 = .ok (.invokevirtual 131, 3) := by decide +kernel
theorem dX11_vowTold_28 : decode cX11_vowTold 28 = .ok (.goto 5, 3) := by decide +kernel
theorem dX11_vowTold_31 : decode cX11_vowTold 31 = .ok (.bipush (-102), 2) := by decide +kernel
theorem dX11_vowTold_33 : decode cX11_vowTold 33 = .ok (.ireturn, 1) := by decide +kernel
theorem dX11_isHermit_0 : decode cX11_isHermit 0 = .ok (.iload_n 1, 1) := by decide +kernel
theorem dX11_isHermit_1 : decode cX11_isHermit 1 = .ok (.iconst 0, 1) := by decide +kernel
theorem dX11_isHermit_2 : decode cX11_isHermit 2 = .ok (.aload_n 0, 1) := by decide +kernel
theorem dX11_isHermit_3 : decode cX11_isHermit 3 = .ok (.getfield 134, 3) := by decide +kernel
theorem dX11_isHermit_6 : decode cX11_isHermit 6 = .ok (.iconst 1, 1) := by decide +kernel
theorem dX11_isHermit_7 : decode cX11_isHermit 7 = .ok (.isub, 1) := by decide +kernel
theorem dX11_isHermit_8 : decode cX11_isHermit 8 = .ok (.invokestatic 90, 3) := by decide +kernel
theorem dX11_isHermit_11 : decode cX11_isHermit 11 = .ok (.ireturn, 1) := by decide +kernel
theorem dX11_isNumber_0 : decode cX11_isNumber 0 = .ok (.iload_n 0, 1) := by decide +kernel
theorem dX11_isNumber_1 : decode cX11_isNumber 1 = .ok (.iconst 1, 1) := by decide +kernel
theorem dX11_isNumber_2 : decode cX11_isNumber 2 = .ok (.if_icmp .eq 8, 3) := by decide +kernel
theorem dX11_isNumber_5 : decode cX11_isNumber 5 = .ok (.iload_n 0, 1) := by decide +kernel
theorem dX11_isNumber_6 : decode cX11_isNumber 6 = .ok (.iconst 4, 1) := by decide +kernel
theorem dX11_isNumber_7 : decode cX11_isNumber 7 = .ok (.if_icmp .ne 7, 3) := by decide +kernel
theorem dX11_isNumber_10 : decode cX11_isNumber 10 = .ok (.iconst 1, 1) := by decide +kernel
theorem dX11_isNumber_11 : decode cX11_isNumber 11 = .ok (.goto 4, 3) := by decide +kernel
theorem dX11_isNumber_14 : decode cX11_isNumber 14 = .ok (.iconst 0, 1) := by decide +kernel
theorem dX11_isNumber_15 : decode cX11_isNumber 15 = .ok (.istore_n 2, 1) := by decide +kernel
theorem dX11_isNumber_16 : decode cX11_isNumber 16 = .ok (.iload_n 2, 1) := by decide +kernel
theorem dX11_isNumber_17 : decode cX11_isNumber 17 = .ok (.ifCond .eq 12, 3) := by decide +kernel
theorem dX11_isNumber_20 : decode cX11_isNumber 20 = .ok (.iload_n 1, 1) := by decide +kernel
theorem dX11_isNumber_21 : decode cX11_isNumber 21 = .ok (.iconst 2, 1) := by decide +kernel
theorem dX11_isNumber_22 : decode cX11_isNumber 22 = .ok (.iconst 4, 1) := by decide +kernel
theorem dX11_isNumber_23 : decode cX11_isNumber 23 = .ok (.invokestatic 90, 3) := by decide +kernel
theorem dX11_isNumber_26 : decode cX11_isNumber 26 = .ok (.goto 26, 3) := by decide +kernel
theorem dX11_isNumber_29 : decode cX11_isNumber 29 = .ok (.iload_n 0, 1) := by decide +kernel
theorem dX11_isNumber_30 : decode cX11_isNumber 30 = .ok (.iconst 3, 1) := by decide +kernel
theorem dX11_isNumber_31 : decode cX11_isNumber 31 = .ok (.if_icmp .ne 12, 3) := by decide +kernel
theorem dX11_isNumber_34 : decode cX11_isNumber 34 = .ok (.iload_n 1, 1) := by decide +kernel
theorem dX11_isNumber_35 : decode cX11_isNumber 35 = .ok (.iconst 1, 1) := by decide +kernel
theorem dX11_isNumber_36 : decode cX11_isNumber 36 = .ok (.iconst 4, 1) := by decide +kernel
theorem dX11_isNumber_37 : decode cX11_isNumber 37 = .ok (.invokestatic 90, 3) := by decide +kernel
theorem dX11_isNumber_40 : decode cX11_isNumber 40 = .ok (.goto 12, 3) := by decide +kernel
theorem dX11_isNumber_43 : decode cX11_isNumber 43 = .ok (.iload_n 1, 1) := by decide +kernel
theorem dX11_isNumber_44 : decode cX11_isNumber 44 = .ok (.ifCond .ne 7, 3) := by decide +kernel
theorem dX11_isNumber_47 : decode cX11_isNumber 47 = .ok (.iconst 1, 1) := by decide +kernel
theorem dX11_isNumber_48 : decode cX11_isNumber 48 = .ok (.goto 4, 3) := by decide +kernel
theorem dX11_isNumber_51 : decode cX11_isNumber 51 = .ok (.iconst 0, 1) := by decide +kernel
theorem dX11_isNumber_52 : decode cX11_isNumber 52 = .ok (.ireturn, 1) := by decide +kernel
theorem dX11_hermit_0 : decode cX11_hermit 0 = .ok (.iload_n 1, 1) := by decide +kernel
theorem dX11_hermit_1 : decode cX11_hermit 1 = .ok (.iconst 0, 1) := by decide +kernel
theorem dX11_hermit_2 : decode cX11_hermit 2 = .ok (.iconst 4, 1) := by decide +kernel
theorem dX11_hermit_3 : decode cX11_hermit 3 = .ok (.invokestatic 90, 3) := by decide +kernel
theorem dX11_hermit_6 : decode cX11_hermit 6 = .ok (.ifCond .eq 31, 3) := by decide +kernel
theorem dX11_hermit_9 : decode cX11_hermit 9 = .ok (.iload_n 1, 1) := by decide +kernel
theorem dX11_hermit_10 : decode cX11_hermit 10 = .ok (.iload_n 2, 1) := by decide +kernel
theorem dX11_hermit_11 : decode cX11_hermit 11 = .ok (.invokestatic 137, 3) := by decide +kernel
theorem dX11_hermit_14 : decode cX11_hermit 14 = .ok (.ifCond .eq 23, 3) := by decide +kernel
theorem dX11_hermit_17 : decode cX11_hermit 17 = .ok (.iload_n 3, 1) := by decide +kernel
theorem dX11_hermit_18 : decode cX11_hermit 18 = .ok (.iconst 1, 1) := by decide +kernel
theorem dX11_hermit_19 : decode cX11_hermit 19 = .ok (.bipush 99, 2) := by decide +kernel
theorem dX11_hermit_21 : decode cX11_hermit 21 = .ok (.invokestatic 90, 3) := by decide +kernel
theorem dX11_hermit_24 : decode cX11_hermit 24 = .ok (.ifCond .eq 13, 3) := by decide +kernel
theorem dX11_hermit_27 : decode cX11_hermit 27 = .ok (.iload 4, 2) := by decide +kernel
theorem dX11_hermit_29 : decode cX11_hermit 29 = .ok (.iconst 0, 1) := by decide +kernel
theorem dX11_hermit_30 : decode cX11_hermit 30 = .ok (.iconst 3, 1) := by decide +kernel
theorem dX11_hermit_31 : decode cX11_hermit 31 = .ok (.invokestatic 90, 3) := by decide +kernel
theorem dX11_hermit_34 : decode cX11_hermit 34 = .ok (.ifCond .ne 6, 3) := by decide +kernel
theorem dX11_hermit_37 : decode cX11_hermit 37 = .ok (.bipush (-102), 2) := by decide +kernel
theorem dX11_hermit_39 : decode cX11_hermit 39 = .ok (.ireturn, 1) := by decide +kernel
theorem dX11_hermit_40 : decode cX11_hermit 40 = .ok (.iload 5, 2) := by decide +kernel
theorem dX11_hermit_42 : decode cX11_hermit 42 = .ok (.iconst 1, 1) := by decide +kernel
theorem dX11_hermit_43 : decode cX11_hermit 43 = .ok (.bipush 9, 2) := by decide +kernel
theorem dX11_hermit_45 : decode cX11_hermit 45 = .ok (.invokestatic 90, 3) := by decide +kernel
theorem dX11_hermit_48 : decode cX11_hermit 48 = .ok (.ifCond .eq 14, 3) := by decide +kernel
theorem dX11_hermit_51 : decode cX11_hermit 51 = .ok (.iload 6, 2) := by decide +kernel
theorem dX11_hermit_53 : decode cX11_hermit 53 = .ok (.iconst 0, 1) := by decide +kernel
theorem dX11_hermit_54 : decode cX11_hermit 54 = .ok (.bipush 99, 2) := by decide +kernel
theorem dX11_hermit_56 : decode cX11_hermit 56 = .ok (.invokestatic 90, 3) := by decide +kernel
theorem dX11_hermit_59 : decode cX11_hermit 59 = .ok (.ifCond .ne 6, 3) := by decide +kernel
theorem dX11_hermit_62 : decode cX11_hermit 62 = .ok (.bipush (-102), 2) := by decide +kernel
theorem dX11_hermit_64 : decode cX11_hermit 64 = .ok (.ireturn, 1) := by decide +kernel
theorem dX11_hermit_65 : decode cX11_hermit 65 = .ok (.aload_n 0, 1) := by decide +kernel
theorem dX11_hermit_66 : decode cX11_hermit 66 = .ok (.getfield 134, 3) := by decide +kernel
theorem dX11_hermit_69 : decode cX11_hermit 69 = .ok (.bipush 10, 2) := by decide +kernel
theorem dX11_hermit_71 : decode cX11_hermit 71 = .ok (.if_icmp .ne 6, 3) := by decide +kernel
theorem dX11_hermit_74 : decode cX11_hermit 74 = .ok (.bipush (-104), 2) := by decide +kernel
theorem dX11_hermit_76 : decode cX11_hermit 76 = .ok (.ireturn, 1) := by decide +kernel
theorem dX11_hermit_77 : decode cX11_hermit 77 = .ok (.aload_n 0, 1) := by decide +kernel
theorem dX11_hermit_78 : decode cX11_hermit 78 = .ok (.getfield 7, 3) := by decide +kernel
theorem dX11_hermit_81 : decode cX11_hermit 81 = .ok (.aload_n 0, 1) := by decide +kernel
theorem dX11_hermit_82 : decode cX11_hermit 82 = .ok (.getfield 134, 3) := by decide +kernel
theorem dX11_hermit_85 : decode cX11_hermit 85 = .ok (.iload_n 1, 1) := by decide +kernel
theorem dX11_hermit_86 : decode cX11_hermit 86 = .ok (.iastore, 1) := by decide +kernel
theorem dX11_hermit_87 : decode cX11_hermit 87 = .ok (.aload_n 0, 1) := by decide +kernel
theorem dX11_hermit_88 : decode cX11_hermit 88 = .ok (.getfield 13, 3) := by decide +kernel
theorem dX11_hermit_91 : decode cX11_hermit 91 = .ok (.aload_n 0, 1) := by decide +kernel
theorem dX11_hermit_92 : decode cX11_hermit 92 = .ok (.getfield 134, 3) := by decide +kernel
theorem dX11_hermit_95 : decode cX11_hermit 95 = .ok (.iload_n 2, 1) := by decide +kernel
theorem dX11_hermit_96 : decode cX11_hermit 96 = .ok (.iastore, 1) := by decide +kernel
theorem dX11_hermit_97 : decode cX11_hermit 97 = .ok (.aload_n 0, 1) := by decide +kernel
theorem dX11_hermit_98 : decode cX11_hermit 98 = .ok (.getfield 16, 3) := by decide +kernel
theorem dX11_hermit_101 : decode cX11_hermit 101 = .ok (.aload_n 0, 1) := by decide +kernel
theorem dX11_hermit_102 : decode cX11_hermit 102 = .ok (.getfield 134, 3) := by decide +kernel
theorem dX11_hermit_105 : decode cX11_hermit 105 = .ok (.iload_n 3, 1) := by decide +kernel
theorem dX11_hermit_106 : decode cX11_hermit 106 = .ok (.iastore, 1) := by decide +kernel
theorem dX11_hermit_107 : decode cX11_hermit 107 = .ok (.aload_n 0, 1) := by decide +kernel
theorem dX11_hermit_108 : decode cX11_hermit 108 = .ok (.getfield 19, 3) := by decide +kernel
theorem dX11_hermit_111 : decode cX11_hermit 111 = .ok (.aload_n 0, 1) := by decide +kernel
theorem dX11_hermit_112 : decode cX11_hermit 112 = .ok (.getfield 134, 3) := by decide +kernel
theorem dX11_hermit_115 : decode cX11_hermit 115 = .ok (.iload 4, 2) := by decide +kernel
theorem dX11_hermit_117 : decode cX11_hermit 117 = .ok (.iastore, 1) := by decide +kernel
theorem dX11_hermit_118 : decode cX11_hermit 118 = .ok (.aload_n 0, 1) := by decide +kernel
theorem dX11_hermit_119 : decode cX11_hermit 119 = .ok (.getfield 22, 3) := by decide +kernel
theorem dX11_hermit_122 : decode cX11_hermit 122 = .ok (.aload_n 0, 1) := by decide +kernel
theorem dX11_hermit_123 : decode cX11_hermit 123 = .ok (.getfield 134, 3) := by decide +kernel
theorem dX11_hermit_126 : decode cX11_hermit 126 = .ok (.iload 5, 2) := by decide +kernel
theorem dX11_hermit_128 : decode cX11_hermit 128 = .ok (.iastore, 1) := by decide +kernel
theorem dX11_hermit_129 : decode cX11_hermit 129 = .ok (.aload_n 0, 1) := by decide +kernel
theorem dX11_hermit_130 : decode cX11_hermit 130 = .ok (.getfield 25, 3) := by decide +kernel
theorem dX11_hermit_133 : decode cX11_hermit 133 = .ok (.aload_n 0, 1) := by decide +kernel
theorem dX11_hermit_134 : decode cX11_hermit 134 = .ok (.getfield 134, 3) := by decide +kernel
theorem dX11_hermit_137 : decode cX11_hermit 137 = .ok (.iload 6, 2) := by decide +kernel
theorem dX11_hermit_139 : decode cX11_hermit 139 = .ok (.iastore, 1) := by decide +kernel
theorem dX11_hermit_140 : decode cX11_hermit 140 = .ok (.aload_n 0, 1) := by decide +kernel
theorem dX11_hermit_141 : decode cX11_hermit 141 = .ok (.getfield 28, 3) := by decide +kernel
theorem dX11_hermit_144 : decode cX11_hermit 144 = .ok (.aload_n 0, 1) := by decide +kernel
theorem dX11_hermit_145 : decode cX11_hermit 145 = .ok (.getfield 134, 3) := by decide +kernel
theorem dX11_hermit_148 : decode cX11_hermit 148 = .ok (.aload_n 0, 1) := by decide +kernel
theorem dX11_hermit_149 : decode cX11_hermit 149 = .ok (.getfield 134, 3) := by decide +kernel
theorem dX11_hermit_152 : decode cX11_hermit 152 = .ok (.iastore, 1) := by decide +kernel
theorem dX11_hermit_153 : decode cX11_hermit 153 = .ok (.aload_n 0, 1) := by decide +kernel
theorem dX11_hermit_154 : decode cX11_hermit 154 = .ok (.getfield 31, 3) := by decide +kernel
theorem dX11_hermit_157 : decode cX11_hermit 157 = .ok (.aload_n 0, 1) := by decide +kernel
theorem dX11_hermit_158 : decode cX11_hermit 158 = .ok (.getfield 134, 3) := by decide +kernel
theorem dX11_hermit_161 : decode cX11_hermit 161 = .ok (.aload_n 0, 1) := by decide +kernel
theorem dX11_hermit_162 : decode cX11_hermit 162 = .ok (.getfield 134, 3) := by decide +kernel
theorem dX11_hermit_165 : decode cX11_hermit 165 = .ok (.iastore, 1) := by decide +kernel
theorem dX11_hermit_166 : decode cX11_hermit 166 = .ok (.aload_n 0, 1) := by decide +kernel
theorem dX11_hermit_167 : decode cX11_hermit 167 = .ok (.dup, 1) := by decide +kernel
theorem dX11_hermit_168 : decode cX11_hermit 168 = .ok (.getfield 134, 3) := by decide +kernel
theorem dX11_hermit_171 : decode cX11_hermit 171 = .ok (.iconst 1, 1) := by decide +kernel
theorem dX11_hermit_172 : decode cX11_hermit 172 = .ok (.iadd, 1) := by decide +kernel
theorem dX11_hermit_173 : decode cX11_hermit 173 = .ok (.putfield 134, 3) := by decide +kernel
theorem dX11_hermit_176 : decode cX11_hermit 176 = .ok (.aload_n 0, 1) := by decide +kernel
theorem dX11_hermit_177 : decode cX11_hermit 177 = .ok (.getfield 134, 3) := by decide +kernel
theorem dX11_hermit_180 : decode cX11_hermit 180 = .ok (.iconst 1, 1) := by decide +kernel
theorem dX11_hermit_181 : decode cX11_hermit 181 = .ok (.isub, 1) := by decide +kernel
theorem dX11_hermit_182 : decode cX11_hermit 182 = .ok (.ireturn, 1) := by decide +kernel
theorem dX11_as_0 : decode cX11_as 0 = .ok (.aload_n 0, 1) := by decide +kernel
theorem dX11_as_1 : decode cX11_as 1 = .ok (.iload_n 1, 1) := by decide +kernel
theorem dX11_as_2 : decode cX11_as 2 = .ok (.invokevirtual 141, 3) := by decide +kernel
theorem dX11_as_5 : decode cX11_as 5 = .ok (.ifCond .ne 6, 3) := by decide +kernel
theorem dX11_as_8 : decode cX11_as 8 = .ok (.bipush (-101), 2) := by decide +kernel
theorem dX11_as_10 : decode cX11_as 10 = .ok (.ireturn, 1) := by decide +kernel
theorem dX11_as_11 : decode cX11_as 11 = .ok (.iload_n 2, 1) := by decide +kernel
theorem dX11_as_12 : decode cX11_as 12 = .ok (.iconst 0, 1) := by decide +kernel
theorem dX11_as_13 : decode cX11_as 13 = .ok (.iconst 4, 1) := by decide +kernel
theorem dX11_as_14 : decode cX11_as 14 = .ok (.invokestatic 90, 3) := by decide +kernel
theorem dX11_as_17 : decode cX11_as 17 = .ok (.ifCond .ne 6, 3) := by decide +kernel
theorem dX11_as_20 : decode cX11_as 20 = .ok (.bipush (-102), 2) := by decide +kernel
theorem dX11_as_22 : decode cX11_as 22 = .ok (.ireturn, 1) := by decide +kernel
theorem dX11_as_23 : decode cX11_as 23 = .ok (.aload_n 0, 1) := by decide +kernel
theorem dX11_as_24 : decode cX11_as 24 = .ok (.getfield 7, 3) := by decide +kernel
theorem dX11_as_27 : decode cX11_as 27 = .ok (.iload_n 1, 1) := by decide +kernel
theorem dX11_as_28 : decode cX11_as 28 = .ok (.iaload, 1) := by decide +kernel
theorem dX11_as_29 : decode cX11_as 29 = .ok (.istore_n 3, 1) := by decide +kernel
theorem dX11_as_30 : decode cX11_as 30 = .ok (.iload_n 2, 1) := by decide +kernel
theorem dX11_as_31 : decode cX11_as 31 = .ok (.ifCond .eq 18, 3) := by decide +kernel
theorem dX11_as_34 : decode cX11_as 34 = .ok (.iload_n 3, 1) := by decide +kernel
theorem dX11_as_35 : decode cX11_as 35 = .ok (.iload_n 2, 1) := by decide +kernel
theorem dX11_as_36 : decode cX11_as 36 = .ok (.if_icmp .eq 13, 3) := by decide +kernel
theorem dX11_as_39 : decode cX11_as 39 = .ok (.iload_n 2, 1) := by decide +kernel
theorem dX11_as_40 : decode cX11_as 40 = .ok (.iconst 1, 1) := by decide +kernel
theorem dX11_as_41 : decode cX11_as 41 = .ok (.if_icmp .ne 12, 3) := by decide +kernel
theorem dX11_as_44 : decode cX11_as 44 = .ok (.iload_n 3, 1) := by decide +kernel
theorem dX11_as_45 : decode cX11_as 45 = .ok (.iconst 4, 1) := by decide +kernel
theorem dX11_as_46 : decode cX11_as 46 = .ok (.if_icmp .ne 7, 3) := by decide +kernel
theorem dX11_as_49 : decode cX11_as 49 = .ok (.iload_n 1, 1) := by decide +kernel
theorem dX11_as_50 : decode cX11_as 50 = .ok (.goto 4, 3) := by decide +kernel
theorem dX11_as_53 : decode cX11_as 53 = .ok (.iconst (-1), 1) := by decide +kernel
theorem dX11_as_54 : decode cX11_as 54 = .ok (.ireturn, 1) := by decide +kernel
theorem dX11_hermitNow_0 : decode cX11_hermitNow 0 = .ok (.iload_n 2, 1) := by decide +kernel
theorem dX11_hermitNow_1 : decode cX11_hermitNow 1 = .ok (.tableswitch 81 0 5 #[39, 46, 53, 60, 67, 74], 39) := by decide +kernel
theorem dX11_hermitNow_40 : decode cX11_hermitNow 40 = .ok (.aload_n 0, 1) := by decide +kernel
theorem dX11_hermitNow_41 : decode cX11_hermitNow 41 = .ok (.getfield 7, 3) := by decide +kernel
theorem dX11_hermitNow_44 : decode cX11_hermitNow 44 = .ok (.iload_n 1, 1) := by decide +kernel
theorem dX11_hermitNow_45 : decode cX11_hermitNow 45 = .ok (.iaload, 1) := by decide +kernel
theorem dX11_hermitNow_46 : decode cX11_hermitNow 46 = .ok (.ireturn, 1) := by decide +kernel
theorem dX11_hermitNow_47 : decode cX11_hermitNow 47 = .ok (.aload_n 0, 1) := by decide +kernel
theorem dX11_hermitNow_48 : decode cX11_hermitNow 48 = .ok (.getfield 13, 3) := by decide +kernel
theorem dX11_hermitNow_51 : decode cX11_hermitNow 51 = .ok (.iload_n 1, 1) := by decide +kernel
theorem dX11_hermitNow_52 : decode cX11_hermitNow 52 = .ok (.iaload, 1) := by decide +kernel
theorem dX11_hermitNow_53 : decode cX11_hermitNow 53 = .ok (.ireturn, 1) := by decide +kernel
theorem dX11_hermitNow_54 : decode cX11_hermitNow 54 = .ok (.aload_n 0, 1) := by decide +kernel
theorem dX11_hermitNow_55 : decode cX11_hermitNow 55 = .ok (.getfield 16, 3) := by decide +kernel
theorem dX11_hermitNow_58 : decode cX11_hermitNow 58 = .ok (.iload_n 1, 1) := by decide +kernel
theorem dX11_hermitNow_59 : decode cX11_hermitNow 59 = .ok (.iaload, 1) := by decide +kernel
theorem dX11_hermitNow_60 : decode cX11_hermitNow 60 = .ok (.ireturn, 1) := by decide +kernel
theorem dX11_hermitNow_61 : decode cX11_hermitNow 61 = .ok (.aload_n 0, 1) := by decide +kernel
theorem dX11_hermitNow_62 : decode cX11_hermitNow 62 = .ok (.getfield 19, 3) := by decide +kernel
theorem dX11_hermitNow_65 : decode cX11_hermitNow 65 = .ok (.iload_n 1, 1) := by decide +kernel
theorem dX11_hermitNow_66 : decode cX11_hermitNow 66 = .ok (.iaload, 1) := by decide +kernel
theorem dX11_hermitNow_67 : decode cX11_hermitNow 67 = .ok (.ireturn, 1) := by decide +kernel
theorem dX11_hermitNow_68 : decode cX11_hermitNow 68 = .ok (.aload_n 0, 1) := by decide +kernel
theorem dX11_hermitNow_69 : decode cX11_hermitNow 69 = .ok (.getfield 22, 3) := by decide +kernel
theorem dX11_hermitNow_72 : decode cX11_hermitNow 72 = .ok (.iload_n 1, 1) := by decide +kernel
theorem dX11_hermitNow_73 : decode cX11_hermitNow 73 = .ok (.iaload, 1) := by decide +kernel
theorem dX11_hermitNow_74 : decode cX11_hermitNow 74 = .ok (.ireturn, 1) := by decide +kernel
theorem dX11_hermitNow_75 : decode cX11_hermitNow 75 = .ok (.aload_n 0, 1) := by decide +kernel
theorem dX11_hermitNow_76 : decode cX11_hermitNow 76 = .ok (.getfield 25, 3) := by decide +kernel
theorem dX11_hermitNow_79 : decode cX11_hermitNow 79 = .ok (.iload_n 1, 1) := by decide +kernel
theorem dX11_hermitNow_80 : decode cX11_hermitNow 80 = .ok (.iaload, 1) := by decide +kernel
theorem dX11_hermitNow_81 : decode cX11_hermitNow 81 = .ok (.ireturn, 1) := by decide +kernel
theorem dX11_hermitNow_82 : decode cX11_hermitNow 82 = .ok (.aload_n 0, 1) := by decide +kernel
theorem dX11_hermitNow_83 : decode cX11_hermitNow 83 = .ok (.getfield 28, 3) := by decide +kernel
theorem dX11_hermitNow_86 : decode cX11_hermitNow 86 = .ok (.iload_n 1, 1) := by decide +kernel
theorem dX11_hermitNow_87 : decode cX11_hermitNow 87 = .ok (.iaload, 1) := by decide +kernel
theorem dX11_hermitNow_88 : decode cX11_hermitNow 88 = .ok (.ireturn, 1) := by decide +kernel
theorem dX11_about_0 : decode cX11_about 0 = .ok (.aload_n 0, 1) := by decide +kernel
theorem dX11_about_1 : decode cX11_about 1 = .ok (.iload_n 1, 1) := by decide +kernel
theorem dX11_about_2 : decode cX11_about 2 = .ok (.invokevirtual 141, 3) := by decide +kernel
theorem dX11_about_5 : decode cX11_about 5 = .ok (.ifCond .ne 9, 3) := by decide +kernel
theorem dX11_about_8 : decode cX11_about 8 = .ok (.sipush (-1001), 3) := by decide +kernel
theorem dX11_about_11 : decode cX11_about 11 = .ok (.goto 25, 3) := by decide +kernel
theorem dX11_about_14 : decode cX11_about 14 = .ok (.iload_n 2, 1) := by decide +kernel
theorem dX11_about_15 : decode cX11_about 15 = .ok (.iconst 0, 1) := by decide +kernel
theorem dX11_about_16 : decode cX11_about 16 = .ok (.bipush 6, 2) := by decide +kernel
theorem dX11_about_18 : decode cX11_about 18 = .ok (.invokestatic 90, 3) := by decide +kernel
theorem dX11_about_21 : decode cX11_about 21 = .ok (.ifCond .eq 12, 3) := by decide +kernel
theorem dX11_about_24 : decode cX11_about 24 = .ok (.aload_n 0, 1) := by decide +kernel
theorem dX11_about_25 : decode cX11_about 25 = .ok (.iload_n 1, 1) := by decide +kernel
theorem dX11_about_26 : decode cX11_about 26 = .ok (.iload_n 2, 1) := by decide +kernel
theorem dX11_about_27 : decode cX11_about 27 = .ok (.invokevirtual 144, 3) := by decide +kernel
theorem dX11_about_30 : decode cX11_about 30 = .ok (.goto 6, 3) := by decide +kernel
theorem dX11_about_33 : decode cX11_about 33 = .ok (.sipush (-1002), 3) := by decide +kernel
theorem dX11_about_36 : decode cX11_about 36 = .ok (.ireturn, 1) := by decide +kernel
theorem dX11_store_0 : decode cX11_store 0 = .ok (.aload_n 0, 1) := by decide +kernel
theorem dX11_store_1 : decode cX11_store 1 = .ok (.iload_n 1, 1) := by decide +kernel
theorem dX11_store_2 : decode cX11_store 2 = .ok (.invokevirtual 141, 3) := by decide +kernel
theorem dX11_store_5 : decode cX11_store 5 = .ok (.ifCond .ne 7, 3) := by decide +kernel
theorem dX11_store_8 : decode cX11_store 8 = .ok (.sipush (-1001), 3) := by decide +kernel
theorem dX11_store_11 : decode cX11_store 11 = .ok (.ireturn, 1) := by decide +kernel
theorem dX11_store_12 : decode cX11_store 12 = .ok (.iload_n 2, 1) := by decide +kernel
theorem dX11_store_13 : decode cX11_store 13 = .ok (.iconst 0, 1) := by decide +kernel
theorem dX11_store_14 : decode cX11_store 14 = .ok (.bipush 99, 2) := by decide +kernel
theorem dX11_store_16 : decode cX11_store 16 = .ok (.invokestatic 90, 3) := by decide +kernel
theorem dX11_store_19 : decode cX11_store 19 = .ok (.ifCond .ne 7, 3) := by decide +kernel
theorem dX11_store_22 : decode cX11_store 22 = .ok (.sipush (-1002), 3) := by decide +kernel
theorem dX11_store_25 : decode cX11_store 25 = .ok (.ireturn, 1) := by decide +kernel
theorem dX11_store_26 : decode cX11_store 26 = .ok (.aload_n 0, 1) := by decide +kernel
theorem dX11_store_27 : decode cX11_store 27 = .ok (.getfield 25, 3) := by decide +kernel
theorem dX11_store_30 : decode cX11_store 30 = .ok (.iload_n 1, 1) := by decide +kernel
theorem dX11_store_31 : decode cX11_store 31 = .ok (.iaload, 1) := by decide +kernel
theorem dX11_store_32 : decode cX11_store 32 = .ok (.istore_n 3, 1) := by decide +kernel
theorem dX11_store_33 : decode cX11_store 33 = .ok (.aload_n 0, 1) := by decide +kernel
theorem dX11_store_34 : decode cX11_store 34 = .ok (.getfield 25, 3) := by decide +kernel
theorem dX11_store_37 : decode cX11_store 37 = .ok (.iload_n 1, 1) := by decide +kernel
theorem dX11_store_38 : decode cX11_store 38 = .ok (.iload_n 2, 1) := by decide +kernel
theorem dX11_store_39 : decode cX11_store 39 = .ok (.iastore, 1) := by decide +kernel
theorem dX11_store_40 : decode cX11_store 40 = .ok (.iload_n 3, 1) := by decide +kernel
theorem dX11_store_41 : decode cX11_store 41 = .ok (.ireturn, 1) := by decide +kernel
theorem dX11_isSeat_0 : decode cX11_isSeat 0 = .ok (.iload_n 1, 1) := by decide +kernel
theorem dX11_isSeat_1 : decode cX11_isSeat 1 = .ok (.iconst 0, 1) := by decide +kernel
theorem dX11_isSeat_2 : decode cX11_isSeat 2 = .ok (.aload_n 0, 1) := by decide +kernel
theorem dX11_isSeat_3 : decode cX11_isSeat 3 = .ok (.getfield 134, 3) := by decide +kernel
theorem dX11_isSeat_6 : decode cX11_isSeat 6 = .ok (.iconst 1, 1) := by decide +kernel
theorem dX11_isSeat_7 : decode cX11_isSeat 7 = .ok (.isub, 1) := by decide +kernel
theorem dX11_isSeat_8 : decode cX11_isSeat 8 = .ok (.invokestatic 90, 3) := by decide +kernel
theorem dX11_isSeat_11 : decode cX11_isSeat 11 = .ok (.ireturn, 1) := by decide +kernel
theorem dX11_exchange_0 : decode cX11_exchange 0 = .ok (.aload_n 0, 1) := by decide +kernel
theorem dX11_exchange_1 : decode cX11_exchange 1 = .ok (.getfield 31, 3) := by decide +kernel
theorem dX11_exchange_4 : decode cX11_exchange 4 = .ok (.iload_n 1, 1) := by decide +kernel
theorem dX11_exchange_5 : decode cX11_exchange 5 = .ok (.iaload, 1) := by decide +kernel
theorem dX11_exchange_6 : decode cX11_exchange 6 = .ok (.istore_n 3, 1) := by decide +kernel
theorem dX11_exchange_7 : decode cX11_exchange 7 = .ok (.aload_n 0, 1) := by decide +kernel
theorem dX11_exchange_8 : decode cX11_exchange 8 = .ok (.getfield 31, 3) := by decide +kernel
theorem dX11_exchange_11 : decode cX11_exchange 11 = .ok (.iload_n 1, 1) := by decide +kernel
theorem dX11_exchange_12 : decode cX11_exchange 12 = .ok (.aload_n 0, 1) := by decide +kernel
theorem dX11_exchange_13 : decode cX11_exchange 13 = .ok (.getfield 31, 3) := by decide +kernel
theorem dX11_exchange_16 : decode cX11_exchange 16 = .ok (.iload_n 2, 1) := by decide +kernel
theorem dX11_exchange_17 : decode cX11_exchange 17 = .ok (.iaload, 1) := by decide +kernel
theorem dX11_exchange_18 : decode cX11_exchange 18 = .ok (.iastore, 1) := by decide +kernel
theorem dX11_exchange_19 : decode cX11_exchange 19 = .ok (.aload_n 0, 1) := by decide +kernel
theorem dX11_exchange_20 : decode cX11_exchange 20 = .ok (.getfield 31, 3) := by decide +kernel
theorem dX11_exchange_23 : decode cX11_exchange 23 = .ok (.iload_n 2, 1) := by decide +kernel
theorem dX11_exchange_24 : decode cX11_exchange 24 = .ok (.iload_n 3, 1) := by decide +kernel
theorem dX11_exchange_25 : decode cX11_exchange 25 = .ok (.iastore, 1) := by decide +kernel
theorem dX11_exchange_26 : decode cX11_exchange 26 = .ok (.aload_n 0, 1) := by decide +kernel
theorem dX11_exchange_27 : decode cX11_exchange 27 = .ok (.getfield 28, 3) := by decide +kernel
theorem dX11_exchange_30 : decode cX11_exchange 30 = .ok (.aload_n 0, 1) := by decide +kernel
theorem dX11_exchange_31 : decode cX11_exchange 31 = .ok (.getfield 31, 3) := by decide +kernel
theorem dX11_exchange_34 : decode cX11_exchange 34 = .ok (.iload_n 1, 1) := by decide +kernel
theorem dX11_exchange_35 : decode cX11_exchange 35 = .ok (.iaload, 1) := by decide +kernel
theorem dX11_exchange_36 : decode cX11_exchange 36 = .ok (.iload_n 1, 1) := by decide +kernel
theorem dX11_exchange_37 : decode cX11_exchange 37 = .ok (.iastore, 1) := by decide +kernel
theorem dX11_exchange_38 : decode cX11_exchange 38 = .ok (.aload_n 0, 1) := by decide +kernel
theorem dX11_exchange_39 : decode cX11_exchange 39 = .ok (.getfield 28, 3) := by decide +kernel
theorem dX11_exchange_42 : decode cX11_exchange 42 = .ok (.aload_n 0, 1) := by decide +kernel
theorem dX11_exchange_43 : decode cX11_exchange 43 = .ok (.getfield 31, 3) := by decide +kernel
theorem dX11_exchange_46 : decode cX11_exchange 46 = .ok (.iload_n 2, 1) := by decide +kernel
theorem dX11_exchange_47 : decode cX11_exchange 47 = .ok (.iaload, 1) := by decide +kernel
theorem dX11_exchange_48 : decode cX11_exchange 48 = .ok (.iload_n 2, 1) := by decide +kernel
theorem dX11_exchange_49 : decode cX11_exchange 49 = .ok (.iastore, 1) := by decide +kernel
theorem dX11_exchange_50 : decode cX11_exchange 50 = .ok (.return_, 1) := by decide +kernel
theorem dX11_change_0 : decode cX11_change 0 = .ok (.aload_n 0, 1) := by decide +kernel
theorem dX11_change_1 : decode cX11_change 1 = .ok (.iload_n 1, 1) := by decide +kernel
theorem dX11_change_2 : decode cX11_change 2 = .ok (.invokevirtual 147, 3) := by decide +kernel
theorem dX11_change_5 : decode cX11_change 5 = .ok (.ifCond .eq 16, 3) := by decide +kernel
theorem dX11_change_8 : decode cX11_change 8 = .ok (.aload_n 0, 1) := by decide +kernel
theorem dX11_change_9 : decode cX11_change 9 = .ok (.iload_n 2, 1) := by decide +kernel
theorem dX11_change_10 : decode cX11_change 10 = .ok (.invokevirtual 147, 3) := by decide +kernel
theorem dX11_change_13 : decode cX11_change 13 = .ok (.ifCond .eq 8, 3) := by decide +kernel
theorem dX11_change_16 : decode cX11_change 16 = .ok (.iload_n 1, 1) := by decide +kernel
theorem dX11_change_17 : decode cX11_change 17 = .ok (.iload_n 2, 1) := by decide +kernel
theorem dX11_change_18 : decode cX11_change 18 = .ok (.if_icmp .ne 6, 3) := by decide +kernel
theorem dX11_change_21 : decode cX11_change 21 = .ok (.bipush (-101), 2) := by decide +kernel
theorem dX11_change_23 : decode cX11_change 23 = .ok (.ireturn, 1) := by decide +kernel
theorem dX11_change_24 : decode cX11_change 24 = .ok (.aload_n 0, 1) := by decide +kernel
theorem dX11_change_25 : decode cX11_change 25 = .ok (.iload_n 1, 1) := by decide +kernel
theorem dX11_change_26 : decode cX11_change 26 = .ok (.iload_n 2, 1) := by decide +kernel
theorem dX11_change_27 : decode cX11_change 27 = .ok (.invokevirtual 150, 3) := by decide +kernel
theorem dX11_change_30 : decode cX11_change 30 = .ok (.aload_n 0, 1) := by decide +kernel
theorem dX11_change_31 : decode cX11_change 31 = .ok (.getfield 31, 3) := by decide +kernel
theorem dX11_change_34 : decode cX11_change 34 = .ok (.iload_n 1, 1) := by decide +kernel
theorem dX11_change_35 : decode cX11_change 35 = .ok (.iaload, 1) := by decide +kernel
theorem dX11_change_36 : decode cX11_change 36 = .ok (.ireturn, 1) := by decide +kernel
theorem dX11_soup_0 : decode cX11_soup 0 = .ok (.iload_n 1, 1) := by decide +kernel
theorem dX11_soup_1 : decode cX11_soup 1 = .ok (.iconst 0, 1) := by decide +kernel
theorem dX11_soup_2 : decode cX11_soup 2 = .ok (.iconst 4, 1) := by decide +kernel
theorem dX11_soup_3 : decode cX11_soup 3 = .ok (.invokestatic 90, 3) := by decide +kernel
theorem dX11_soup_6 : decode cX11_soup 6 = .ok (.ifCond .ne 6, 3) := by decide +kernel
theorem dX11_soup_9 : decode cX11_soup 9 = .ok (.bipush (-101), 2) := by decide +kernel
theorem dX11_soup_11 : decode cX11_soup 11 = .ok (.ireturn, 1) := by decide +kernel
theorem dX11_soup_12 : decode cX11_soup 12 = .ok (.iload_n 2, 1) := by decide +kernel
theorem dX11_soup_13 : decode cX11_soup 13 = .ok (.iconst 0, 1) := by decide +kernel
theorem dX11_soup_14 : decode cX11_soup 14 = .ok (.bipush 99, 2) := by decide +kernel
theorem dX11_soup_16 : decode cX11_soup 16 = .ok (.invokestatic 90, 3) := by decide +kernel
theorem dX11_soup_19 : decode cX11_soup 19 = .ok (.ifCond .ne 6, 3) := by decide +kernel
theorem dX11_soup_22 : decode cX11_soup 22 = .ok (.bipush (-102), 2) := by decide +kernel
theorem dX11_soup_24 : decode cX11_soup 24 = .ok (.ireturn, 1) := by decide +kernel
theorem dX11_soup_25 : decode cX11_soup 25 = .ok (.aload_n 0, 1) := by decide +kernel
theorem dX11_soup_26 : decode cX11_soup 26 = .ok (.getfield 34, 3) := by decide +kernel
theorem dX11_soup_29 : decode cX11_soup 29 = .ok (.iload_n 1, 1) := by decide +kernel
theorem dX11_soup_30 : decode cX11_soup 30 = .ok (.iaload, 1) := by decide +kernel
theorem dX11_soup_31 : decode cX11_soup 31 = .ok (.istore_n 3, 1) := by decide +kernel
theorem dX11_soup_32 : decode cX11_soup 32 = .ok (.aload_n 0, 1) := by decide +kernel
theorem dX11_soup_33 : decode cX11_soup 33 = .ok (.getfield 34, 3) := by decide +kernel
theorem dX11_soup_36 : decode cX11_soup 36 = .ok (.iload_n 1, 1) := by decide +kernel
theorem dX11_soup_37 : decode cX11_soup 37 = .ok (.iload_n 2, 1) := by decide +kernel
theorem dX11_soup_38 : decode cX11_soup 38 = .ok (.iastore, 1) := by decide +kernel
theorem dX11_soup_39 : decode cX11_soup 39 = .ok (.iload_n 3, 1) := by decide +kernel
theorem dX11_soup_40 : decode cX11_soup 40 = .ok (.ireturn, 1) := by decide +kernel
theorem dX11_heat_0 : decode cX11_heat 0 = .ok (.iload_n 1, 1) := by decide +kernel
theorem dX11_heat_1 : decode cX11_heat 1 = .ok (.iconst 0, 1) := by decide +kernel
theorem dX11_heat_2 : decode cX11_heat 2 = .ok (.sipush 300, 3) := by decide +kernel
theorem dX11_heat_5 : decode cX11_heat 5 = .ok (.invokestatic 90, 3) := by decide +kernel
theorem dX11_heat_8 : decode cX11_heat 8 = .ok (.ifCond .ne 6, 3) := by decide +kernel
theorem dX11_heat_11 : decode cX11_heat 11 = .ok (.bipush (-102), 2) := by decide +kernel
theorem dX11_heat_13 : decode cX11_heat 13 = .ok (.ireturn, 1) := by decide +kernel
theorem dX11_heat_14 : decode cX11_heat 14 = .ok (.aload_n 0, 1) := by decide +kernel
theorem dX11_heat_15 : decode cX11_heat 15 = .ok (.getfield 37, 3) := by decide +kernel
theorem dX11_heat_18 : decode cX11_heat 18 = .ok (.istore_n 2, 1) := by decide +kernel
theorem dX11_heat_19 : decode cX11_heat 19 = .ok (.aload_n 0, 1) := by decide +kernel
theorem dX11_heat_20 : decode cX11_heat 20 = .ok (.iload_n 1, 1) := by decide +kernel
theorem dX11_heat_21 : decode cX11_heat 21 = .ok (.putfield 37, 3) := by decide +kernel
theorem dX11_heat_24 : decode cX11_heat 24 = .ok (.iload_n 2, 1) := by decide +kernel
theorem dX11_heat_25 : decode cX11_heat 25 = .ok (.ireturn, 1) := by decide +kernel
theorem dX11_feast_0 : decode cX11_feast 0 = .ok (.aload_n 0, 1) := by decide +kernel
theorem dX11_feast_1 : decode cX11_feast 1 = .ok (.getfield 154, 3) := by decide +kernel
theorem dX11_feast_4 : decode cX11_feast 4 = .ok (.ifCond .eq 7, 3) := by decide +kernel
theorem dX11_feast_7 : decode cX11_feast 7 = .ok (.iconst 1, 1) := by decide +kernel
theorem dX11_feast_8 : decode cX11_feast 8 = .ok (.goto 4, 3) := by decide +kernel
theorem dX11_feast_11 : decode cX11_feast 11 = .ok (.iconst 0, 1) := by decide +kernel
theorem dX11_feast_12 : decode cX11_feast 12 = .ok (.istore_n 2, 1) := by decide +kernel
theorem dX11_feast_13 : decode cX11_feast 13 = .ok (.aload_n 0, 1) := by decide +kernel
theorem dX11_feast_14 : decode cX11_feast 14 = .ok (.iload_n 1, 1) := by decide +kernel
theorem dX11_feast_15 : decode cX11_feast 15 = .ok (.putfield 154, 3) := by decide +kernel
theorem dX11_feast_18 : decode cX11_feast 18 = .ok (.iload_n 2, 1) := by decide +kernel
theorem dX11_feast_19 : decode cX11_feast 19 = .ok (.ireturn, 1) := by decide +kernel
theorem dX11_useVow_0 : decode cX11_useVow 0 = .ok (.aload_n 0, 1) := by decide +kernel
theorem dX11_useVow_1 : decode cX11_useVow 1 = .ok (.aload_n 0, 1) := by decide +kernel
theorem dX11_useVow_2 : decode cX11_useVow 2 = .ok (.getfield 41, 3) := by decide +kernel
theorem dX11_useVow_5 : decode cX11_useVow 5 = .ok (.iload_n 1, 1) := by decide +kernel
theorem dX11_useVow_6 : decode cX11_useVow 6 = .ok (.baload, 1) := by decide +kernel
theorem dX11_useVow_7 : decode cX11_useVow 7 = .ok (.putfield 157, 3) := by decide +kernel
theorem dX11_useVow_10 : decode cX11_useVow 10 = .ok (.aload_n 0, 1) := by decide +kernel
theorem dX11_useVow_11 : decode cX11_useVow 11 = .ok (.aload_n 0, 1) := by decide +kernel
theorem dX11_useVow_12 : decode cX11_useVow 12 = .ok (.getfield 45, 3) := by decide +kernel
theorem dX11_useVow_15 : decode cX11_useVow 15 = .ok (.iload_n 1, 1) := by decide +kernel
theorem dX11_useVow_16 : decode cX11_useVow 16 = .ok (.iaload, 1) := by decide +kernel
theorem dX11_useVow_17 : decode cX11_useVow 17 = .ok (.putfield 160, 3) := by decide +kernel
theorem dX11_useVow_20 : decode cX11_useVow 20 = .ok (.aload_n 0, 1) := by decide +kernel
theorem dX11_useVow_21 : decode cX11_useVow 21 = .ok (.aload_n 0, 1) := by decide +kernel
theorem dX11_useVow_22 : decode cX11_useVow 22 = .ok (.getfield 48, 3) := by decide +kernel
theorem dX11_useVow_25 : decode cX11_useVow 25 = .ok (.iload_n 1, 1) := by decide +kernel
theorem dX11_useVow_26 : decode cX11_useVow 26 = .ok (.baload, 1) := by decide +kernel
theorem dX11_useVow_27 : decode cX11_useVow 27 = .ok (.putfield 163, 3) := by decide +kernel
theorem dX11_useVow_30 : decode cX11_useVow 30 = .ok (.aload_n 0, 1) := by decide +kernel
theorem dX11_useVow_31 : decode cX11_useVow 31 = .ok (.aload_n 0, 1) := by decide +kernel
theorem dX11_useVow_32 : decode cX11_useVow 32 = .ok (.getfield 51, 3) := by decide +kernel
theorem dX11_useVow_35 : decode cX11_useVow 35 = .ok (.iload_n 1, 1) := by decide +kernel
theorem dX11_useVow_36 : decode cX11_useVow 36 = .ok (.iaload, 1) := by decide +kernel
theorem dX11_useVow_37 : decode cX11_useVow 37 = .ok (.putfield 166, 3) := by decide +kernel
theorem dX11_useVow_40 : decode cX11_useVow 40 = .ok (.aload_n 0, 1) := by decide +kernel
theorem dX11_useVow_41 : decode cX11_useVow 41 = .ok (.iconst 0, 1) := by decide +kernel
theorem dX11_useVow_42 : decode cX11_useVow 42 = .ok (.putfield 169, 3) := by decide +kernel
theorem dX11_useVow_45 : decode cX11_useVow 45 = .ok (.aload_n 0, 1) := by decide +kernel
theorem dX11_useVow_46 : decode cX11_useVow 46 = .ok (.iconst (-1), 1) := by decide +kernel
theorem dX11_useVow_47 : decode cX11_useVow 47 = .ok (.putfield 172, 3) := by decide +kernel
theorem dX11_useVow_50 : decode cX11_useVow 50 = .ok (.return_, 1) := by decide +kernel
theorem dX11_useStores_0 : decode cX11_useStores 0 = .ok (.iconst 0, 1) := by decide +kernel
theorem dX11_useStores_1 : decode cX11_useStores 1 = .ok (.istore_n 1, 1) := by decide +kernel
theorem dX11_useStores_2 : decode cX11_useStores 2 = .ok (.iload_n 1, 1) := by decide +kernel
theorem dX11_useStores_3 : decode cX11_useStores 3 = .ok (.bipush 10, 2) := by decide +kernel
theorem dX11_useStores_5 : decode cX11_useStores 5 = .ok (.if_icmp .ge 21, 3) := by decide +kernel
theorem dX11_useStores_8 : decode cX11_useStores 8 = .ok (.aload_n 0, 1) := by decide +kernel
theorem dX11_useStores_9 : decode cX11_useStores 9 = .ok (.getfield 67, 3) := by decide +kernel
theorem dX11_useStores_12 : decode cX11_useStores 12 = .ok (.iload_n 1, 1) := by decide +kernel
theorem dX11_useStores_13 : decode cX11_useStores 13 = .ok (.aload_n 0, 1) := by decide +kernel
theorem dX11_useStores_14 : decode cX11_useStores 14 = .ok (.getfield 25, 3) := by decide +kernel
theorem dX11_useStores_17 : decode cX11_useStores 17 = .ok (.iload_n 1, 1) := by decide +kernel
theorem dX11_useStores_18 : decode cX11_useStores 18 = .ok (.iaload, 1) := by decide +kernel
theorem dX11_useStores_19 : decode cX11_useStores 19 = .ok (.iastore, 1) := by decide +kernel
theorem dX11_useStores_20 : decode cX11_useStores 20 = .ok (.iinc 1 1, 3) := by decide +kernel
theorem dX11_useStores_23 : decode cX11_useStores 23 = .ok (.goto (-21), 3) := by decide +kernel
theorem dX11_useStores_26 : decode cX11_useStores 26 = .ok (.return_, 1) := by decide +kernel
theorem dX11_beginDay_0 : decode cX11_beginDay 0 = .ok (.iconst 0, 1) := by decide +kernel
theorem dX11_beginDay_1 : decode cX11_beginDay 1 = .ok (.istore_n 1, 1) := by decide +kernel
theorem dX11_beginDay_2 : decode cX11_beginDay 2 = .ok (.iload_n 1, 1) := by decide +kernel
theorem dX11_beginDay_3 : decode cX11_beginDay 3 = .ok (.bipush 10, 2) := by decide +kernel
theorem dX11_beginDay_5 : decode cX11_beginDay 5 = .ok (.if_icmp .ge 30, 3) := by decide +kernel
theorem dX11_beginDay_8 : decode cX11_beginDay 8 = .ok (.aload_n 0, 1) := by decide +kernel
theorem dX11_beginDay_9 : decode cX11_beginDay 9 = .ok (.getfield 73, 3) := by decide +kernel
theorem dX11_beginDay_12 : decode cX11_beginDay 12 = .ok (.iload_n 1, 1) := by decide +kernel
theorem dX11_beginDay_13 : decode cX11_beginDay 13 = .ok (.iconst 0, 1) := by decide +kernel
theorem dX11_beginDay_14 : decode cX11_beginDay 14 = .ok (.iastore, 1) := by decide +kernel
theorem dX11_beginDay_15 : decode cX11_beginDay 15 = .ok (.aload_n 0, 1) := by decide +kernel
theorem dX11_beginDay_16 : decode cX11_beginDay 16 = .ok (.getfield 76, 3) := by decide +kernel
theorem dX11_beginDay_19 : decode cX11_beginDay 19 = .ok (.iload_n 1, 1) := by decide +kernel
theorem dX11_beginDay_20 : decode cX11_beginDay 20 = .ok (.iconst 0, 1) := by decide +kernel
theorem dX11_beginDay_21 : decode cX11_beginDay 21 = .ok (.iastore, 1) := by decide +kernel
theorem dX11_beginDay_22 : decode cX11_beginDay 22 = .ok (.aload_n 0, 1) := by decide +kernel
theorem dX11_beginDay_23 : decode cX11_beginDay 23 = .ok (.getfield 79, 3) := by decide +kernel
theorem dX11_beginDay_26 : decode cX11_beginDay 26 = .ok (.iload_n 1, 1) := by decide +kernel
theorem dX11_beginDay_27 : decode cX11_beginDay 27 = .ok (.iconst 0, 1) := by decide +kernel
theorem dX11_beginDay_28 : decode cX11_beginDay 28 = .ok (.iastore, 1) := by decide +kernel
theorem dX11_beginDay_29 : decode cX11_beginDay 29 = .ok (.iinc 1 1, 3) := by decide +kernel
theorem dX11_beginDay_32 : decode cX11_beginDay 32 = .ok (.goto (-30), 3) := by decide +kernel
theorem dX11_beginDay_35 : decode cX11_beginDay 35 = .ok (.iconst 0, 1) := by decide +kernel
theorem dX11_beginDay_36 : decode cX11_beginDay 36 = .ok (.istore_n 1, 1) := by decide +kernel
theorem dX11_beginDay_37 : decode cX11_beginDay 37 = .ok (.iload_n 1, 1) := by decide +kernel
theorem dX11_beginDay_38 : decode cX11_beginDay 38 = .ok (.iconst 5, 1) := by decide +kernel
theorem dX11_beginDay_39 : decode cX11_beginDay 39 = .ok (.if_icmp .ge 21, 3) := by decide +kernel
theorem dX11_beginDay_42 : decode cX11_beginDay 42 = .ok (.aload_n 0, 1) := by decide +kernel
theorem dX11_beginDay_43 : decode cX11_beginDay 43 = .ok (.getfield 70, 3) := by decide +kernel
theorem dX11_beginDay_46 : decode cX11_beginDay 46 = .ok (.iload_n 1, 1) := by decide +kernel
theorem dX11_beginDay_47 : decode cX11_beginDay 47 = .ok (.aload_n 0, 1) := by decide +kernel
theorem dX11_beginDay_48 : decode cX11_beginDay 48 = .ok (.getfield 34, 3) := by decide +kernel
theorem dX11_beginDay_51 : decode cX11_beginDay 51 = .ok (.iload_n 1, 1) := by decide +kernel
theorem dX11_beginDay_52 : decode cX11_beginDay 52 = .ok (.iaload, 1) := by decide +kernel
theorem dX11_beginDay_53 : decode cX11_beginDay 53 = .ok (.iastore, 1) := by decide +kernel
theorem dX11_beginDay_54 : decode cX11_beginDay 54 = .ok (.iinc 1 1, 3) := by decide +kernel
theorem dX11_beginDay_57 : decode cX11_beginDay 57 = .ok (.goto (-20), 3) := by decide +kernel
theorem dX11_beginDay_60 : decode cX11_beginDay 60 = .ok (.aload_n 0, 1) := by decide +kernel
theorem dX11_beginDay_61 : decode cX11_beginDay 61 = .ok (.aload_n 0, 1) := by decide +kernel
theorem dX11_beginDay_62 : decode cX11_beginDay 62 = .ok (.getfield 37, 3) := by decide +kernel
theorem dX11_beginDay_65 : decode cX11_beginDay 65 = .ok (.putfield 175, 3) := by decide +kernel
theorem dX11_beginDay_68 : decode cX11_beginDay 68 = .ok (.aload_n 0, 1) := by decide +kernel
theorem dX11_beginDay_69 : decode cX11_beginDay 69 = .ok (.iconst 0, 1) := by decide +kernel
theorem dX11_beginDay_70 : decode cX11_beginDay 70 = .ok (.putfield 178, 3) := by decide +kernel
theorem dX11_beginDay_73 : decode cX11_beginDay 73 = .ok (.aload_n 0, 1) := by decide +kernel
theorem dX11_beginDay_74 : decode cX11_beginDay 74 = .ok (.iconst 0, 1) := by decide +kernel
theorem dX11_beginDay_75 : decode cX11_beginDay 75 = .ok (.putfield 181, 3) := by decide +kernel
theorem dX11_beginDay_78 : decode cX11_beginDay 78 = .ok (.aload_n 0, 1) := by decide +kernel
theorem dX11_beginDay_79 : decode cX11_beginDay 79 = .ok (.iconst 0, 1) := by decide +kernel
theorem dX11_beginDay_80 : decode cX11_beginDay 80 = .ok (.putfield 184, 3) := by decide +kernel
theorem dX11_beginDay_83 : decode cX11_beginDay 83 = .ok (.aload_n 0, 1) := by decide +kernel
theorem dX11_beginDay_84 : decode cX11_beginDay 84 = .ok (.iconst 0, 1) := by decide +kernel
theorem dX11_beginDay_85 : decode cX11_beginDay 85 = .ok (.putfield 187, 3) := by decide +kernel
theorem dX11_beginDay_88 : decode cX11_beginDay 88 = .ok (.return_, 1) := by decide +kernel
theorem dX11_isSkipped_0 : decode cX11_isSkipped 0 = .ok (.aload_n 0, 1) := by decide +kernel
theorem dX11_isSkipped_1 : decode cX11_isSkipped 1 = .ok (.getfield 67, 3) := by decide +kernel
theorem dX11_isSkipped_4 : decode cX11_isSkipped 4 = .ok (.iload_n 1, 1) := by decide +kernel
theorem dX11_isSkipped_5 : decode cX11_isSkipped 5 = .ok (.iaload, 1) := by decide +kernel
theorem dX11_isSkipped_6 : decode cX11_isSkipped 6 = .ok (.ifCond .lt 31, 3) := by decide +kernel
theorem dX11_isSkipped_9 : decode cX11_isSkipped 9 = .ok (.aload_n 0, 1) := by decide +kernel
theorem dX11_isSkipped_10 : decode cX11_isSkipped 10 = .ok (.getfield 169, 3) := by decide +kernel
theorem dX11_isSkipped_13 : decode cX11_isSkipped 13 = .ok (.iload_n 1, 1) := by decide +kernel
theorem dX11_isSkipped_14 : decode cX11_isSkipped 14 = .ok (.invokestatic 190, 3) := by decide +kernel
theorem dX11_isSkipped_17 : decode cX11_isSkipped 17 = .ok (.ifCond .ne 20, 3) := by decide +kernel
theorem dX11_isSkipped_20 : decode cX11_isSkipped 20 = .ok (.aload_n 0, 1) := by decide +kernel
theorem dX11_isSkipped_21 : decode cX11_isSkipped 21 = .ok (.getfield 163, 3) := by decide +kernel
theorem dX11_isSkipped_24 : decode cX11_isSkipped 24 = .ok (.ifCond .eq 17, 3) := by decide +kernel
theorem dX11_isSkipped_27 : decode cX11_isSkipped 27 = .ok (.aload_n 0, 1) := by decide +kernel
theorem dX11_isSkipped_28 : decode cX11_isSkipped 28 = .ok (.getfield 7, 3) := by decide +kernel
theorem dX11_isSkipped_31 : decode cX11_isSkipped 31 = .ok (.iload_n 1, 1) := by decide +kernel
theorem dX11_isSkipped_32 : decode cX11_isSkipped 32 = .ok (.iaload, 1) := by decide +kernel
theorem dX11_isSkipped_33 : decode cX11_isSkipped 33 = .ok (.iconst 2, 1) := by decide +kernel
theorem dX11_isSkipped_34 : decode cX11_isSkipped 34 = .ok (.if_icmp .ne 7, 3) := by decide +kernel
theorem dX11_isSkipped_37 : decode cX11_isSkipped 37 = .ok (.iconst 1, 1) := by decide +kernel
theorem dX11_isSkipped_38 : decode cX11_isSkipped 38 = .ok (.goto 4, 3) := by decide +kernel
theorem dX11_isSkipped_41 : decode cX11_isSkipped 41 = .ok (.iconst 0, 1) := by decide +kernel
theorem dX11_isSkipped_42 : decode cX11_isSkipped 42 = .ok (.istore_n 2, 1) := by decide +kernel
theorem dX11_isSkipped_43 : decode cX11_isSkipped 43 = .ok (.iload_n 2, 1) := by decide +kernel
theorem dX11_isSkipped_44 : decode cX11_isSkipped 44 = .ok (.ifCond .ne 23, 3) := by decide +kernel
theorem dX11_isSkipped_47 : decode cX11_isSkipped 47 = .ok (.aload_n 0, 1) := by decide +kernel
theorem dX11_isSkipped_48 : decode cX11_isSkipped 48 = .ok (.getfield 166, 3) := by decide +kernel
theorem dX11_isSkipped_51 : decode cX11_isSkipped 51 = .ok (.ifCond .le 20, 3) := by decide +kernel
theorem dX11_isSkipped_54 : decode cX11_isSkipped 54 = .ok (.aload_n 0, 1) := by decide +kernel
theorem dX11_isSkipped_55 : decode cX11_isSkipped 55 = .ok (.getfield 76, 3) := by decide +kernel
theorem dX11_isSkipped_58 : decode cX11_isSkipped 58 = .ok (.iload_n 1, 1) := by decide +kernel
theorem dX11_isSkipped_59 : decode cX11_isSkipped 59 = .ok (.iaload, 1) := by decide +kernel
theorem dX11_isSkipped_60 : decode cX11_isSkipped 60 = .ok (.aload_n 0, 1) := by decide +kernel
theorem dX11_isSkipped_61 : decode cX11_isSkipped 61 = .ok (.getfield 166, 3) := by decide +kernel
theorem dX11_isSkipped_64 : decode cX11_isSkipped 64 = .ok (.if_icmp .lt 7, 3) := by decide +kernel
theorem dX11_isSkipped_67 : decode cX11_isSkipped 67 = .ok (.iconst 1, 1) := by decide +kernel
theorem dX11_isSkipped_68 : decode cX11_isSkipped 68 = .ok (.goto 4, 3) := by decide +kernel
theorem dX11_isSkipped_71 : decode cX11_isSkipped 71 = .ok (.iconst 0, 1) := by decide +kernel
theorem dX11_isSkipped_72 : decode cX11_isSkipped 72 = .ok (.ireturn, 1) := by decide +kernel
theorem dX11_soupLeft_0 : decode cX11_soupLeft 0 = .ok (.iconst 0, 1) := by decide +kernel
theorem dX11_soupLeft_1 : decode cX11_soupLeft 1 = .ok (.istore_n 1, 1) := by decide +kernel
theorem dX11_soupLeft_2 : decode cX11_soupLeft 2 = .ok (.iconst 0, 1) := by decide +kernel
theorem dX11_soupLeft_3 : decode cX11_soupLeft 3 = .ok (.istore_n 2, 1) := by decide +kernel
theorem dX11_soupLeft_4 : decode cX11_soupLeft 4 = .ok (.iload_n 2, 1) := by decide +kernel
theorem dX11_soupLeft_5 : decode cX11_soupLeft 5 = .ok (.iconst 5, 1) := by decide +kernel
theorem dX11_soupLeft_6 : decode cX11_soupLeft 6 = .ok (.if_icmp .ge 18, 3) := by decide +kernel
theorem dX11_soupLeft_9 : decode cX11_soupLeft 9 = .ok (.iload_n 1, 1) := by decide +kernel
theorem dX11_soupLeft_10 : decode cX11_soupLeft 10 = .ok (.aload_n 0, 1) := by decide +kernel
theorem dX11_soupLeft_11 : decode cX11_soupLeft 11 = .ok (.getfield 70, 3) := by decide +kernel
theorem dX11_soupLeft_14 : decode cX11_soupLeft 14 = .ok (.iload_n 2, 1) := by decide +kernel
theorem dX11_soupLeft_15 : decode cX11_soupLeft 15 = .ok (.iaload, 1) := by decide +kernel
theorem dX11_soupLeft_16 : decode cX11_soupLeft 16 = .ok (.iadd, 1) := by decide +kernel
theorem dX11_soupLeft_17 : decode cX11_soupLeft 17 = .ok (.istore_n 1, 1) := by decide +kernel
theorem dX11_soupLeft_18 : decode cX11_soupLeft 18 = .ok (.iinc 2 1, 3) := by decide +kernel
theorem dX11_soupLeft_21 : decode cX11_soupLeft 21 = .ok (.goto (-17), 3) := by decide +kernel
theorem dX11_soupLeft_24 : decode cX11_soupLeft 24 = .ok (.iload_n 1, 1) := by decide +kernel
theorem dX11_soupLeft_25 : decode cX11_soupLeft 25 = .ok (.ireturn, 1) := by decide +kernel
theorem dX11_areAllSkipped_0 : decode cX11_areAllSkipped 0 = .ok (.iconst 1, 1) := by decide +kernel
theorem dX11_areAllSkipped_1 : decode cX11_areAllSkipped 1 = .ok (.istore_n 1, 1) := by decide +kernel
theorem dX11_areAllSkipped_2 : decode cX11_areAllSkipped 2 = .ok (.iconst 0, 1) := by decide +kernel
theorem dX11_areAllSkipped_3 : decode cX11_areAllSkipped 3 = .ok (.istore_n 2, 1) := by decide +kernel
theorem dX11_areAllSkipped_4 : decode cX11_areAllSkipped 4 = .ok (.iload_n 2, 1) := by decide +kernel
theorem dX11_areAllSkipped_5 : decode cX11_areAllSkipped 5 = .ok (.aload_n 0, 1) := by decide +kernel
theorem dX11_areAllSkipped_6 : decode cX11_areAllSkipped 6 = .ok (.getfield 134, 3) := by decide +kernel
theorem dX11_areAllSkipped_9 : decode cX11_areAllSkipped 9 = .ok (.if_icmp .ge 27, 3) := by decide +kernel
theorem dX11_areAllSkipped_12 : decode cX11_areAllSkipped 12 = .ok (.iload_n 1, 1) := by decide +kernel
theorem dX11_areAllSkipped_13 : decode cX11_areAllSkipped 13 = .ok (.ifCond .eq 15, 3) := by decide +kernel
theorem dX11_areAllSkipped_16 : decode cX11_areAllSkipped 16 = .ok (.aload_n 0, 1) := by decide +kernel
theorem dX11_areAllSkipped_17 : decode cX11_areAllSkipped 17 = .ok (.iload_n 2, 1) := by decide +kernel
theorem dX11_areAllSkipped_18 : decode cX11_areAllSkipped 18 = .ok (.invokevirtual 193, 3) := by decide +kernel
theorem dX11_areAllSkipped_21 : decode cX11_areAllSkipped 21 = .ok (.ifCond .eq 7, 3) := by decide +kernel
theorem dX11_areAllSkipped_24 : decode cX11_areAllSkipped 24 = .ok (.iconst 1, 1) := by decide +kernel
theorem dX11_areAllSkipped_25 : decode cX11_areAllSkipped 25 = .ok (.goto 4, 3) := by decide +kernel
theorem dX11_areAllSkipped_28 : decode cX11_areAllSkipped 28 = .ok (.iconst 0, 1) := by decide +kernel
theorem dX11_areAllSkipped_29 : decode cX11_areAllSkipped 29 = .ok (.istore_n 1, 1) := by decide +kernel
theorem dX11_areAllSkipped_30 : decode cX11_areAllSkipped 30 = .ok (.iinc 2 1, 3) := by decide +kernel
theorem dX11_areAllSkipped_33 : decode cX11_areAllSkipped 33 = .ok (.goto (-29), 3) := by decide +kernel
theorem dX11_areAllSkipped_36 : decode cX11_areAllSkipped 36 = .ok (.iload_n 1, 1) := by decide +kernel
theorem dX11_areAllSkipped_37 : decode cX11_areAllSkipped 37 = .ok (.ireturn, 1) := by decide +kernel
theorem dX11_isOver_0 : decode cX11_isOver 0 = .ok (.aload_n 0, 1) := by decide +kernel
theorem dX11_isOver_1 : decode cX11_isOver 1 = .ok (.invokevirtual 196, 3) := by decide +kernel
theorem dX11_isOver_4 : decode cX11_isOver 4 = .ok (.ifCond .eq 20, 3) := by decide +kernel
theorem dX11_isOver_7 : decode cX11_isOver 7 = .ok (.aload_n 0, 1) := by decide +kernel
theorem dX11_isOver_8 : decode cX11_isOver 8 = .ok (.getfield 181, 3) := by decide +kernel
theorem dX11_isOver_11 : decode cX11_isOver 11 = .ok (.sipush 300, 3) := by decide +kernel
theorem dX11_isOver_14 : decode cX11_isOver 14 = .ok (.if_icmp .ge 10, 3) := by decide +kernel
theorem dX11_isOver_17 : decode cX11_isOver 17 = .ok (.aload_n 0, 1) := by decide +kernel
theorem dX11_isOver_18 : decode cX11_isOver 18 = .ok (.invokevirtual 200, 3) := by decide +kernel
theorem dX11_isOver_21 : decode cX11_isOver 21 = .ok (.ifCond .eq 7, 3) := by decide +kernel
theorem dX11_isOver_24 : decode cX11_isOver 24 = .ok (.iconst 1, 1) := by decide +kernel
theorem dX11_isOver_25 : decode cX11_isOver 25 = .ok (.goto 4, 3) := by decide +kernel
theorem dX11_isOver_28 : decode cX11_isOver 28 = .ok (.iconst 0, 1) := by decide +kernel
theorem dX11_isOver_29 : decode cX11_isOver 29 = .ok (.ireturn, 1) := by decide +kernel
theorem dX11_onward_0 : decode cX11_onward 0 = .ok (.iload_n 1, 1) := by decide +kernel
theorem dX11_onward_1 : decode cX11_onward 1 = .ok (.iload_n 2, 1) := by decide +kernel
theorem dX11_onward_2 : decode cX11_onward 2 = .ok (.ifCond .eq 7, 3) := by decide +kernel
theorem dX11_onward_5 : decode cX11_onward 5 = .ok (.iconst 1, 1) := by decide +kernel
theorem dX11_onward_6 : decode cX11_onward 6 = .ok (.goto 9, 3) := by decide +kernel
theorem dX11_onward_9 : decode cX11_onward 9 = .ok (.aload_n 0, 1) := by decide +kernel
theorem dX11_onward_10 : decode cX11_onward 10 = .ok (.getfield 134, 3) := by decide +kernel
theorem dX11_onward_13 : decode cX11_onward 13 = .ok (.iconst 1, 1) := by decide +kernel
theorem dX11_onward_14 : decode cX11_onward 14 = .ok (.isub, 1) := by decide +kernel
theorem dX11_onward_15 : decode cX11_onward 15 = .ok (.iadd, 1) := by decide +kernel
theorem dX11_onward_16 : decode cX11_onward 16 = .ok (.aload_n 0, 1) := by decide +kernel
theorem dX11_onward_17 : decode cX11_onward 17 = .ok (.getfield 134, 3) := by decide +kernel
theorem dX11_onward_20 : decode cX11_onward 20 = .ok (.irem, 1) := by decide +kernel
theorem dX11_onward_21 : decode cX11_onward 21 = .ok (.ireturn, 1) := by decide +kernel
theorem dX11_stir_0 : decode cX11_stir 0 = .ok (.aload_n 0, 1) := by decide +kernel
theorem dX11_stir_1 : decode cX11_stir 1 = .ok (.invokevirtual 196, 3) := by decide +kernel
theorem dX11_stir_4 : decode cX11_stir 4 = .ok (.istore_n 1, 1) := by decide +kernel
theorem dX11_stir_5 : decode cX11_stir 5 = .ok (.iconst 0, 1) := by decide +kernel
theorem dX11_stir_6 : decode cX11_stir 6 = .ok (.istore_n 2, 1) := by decide +kernel
theorem dX11_stir_7 : decode cX11_stir 7 = .ok (.iload_n 2, 1) := by decide +kernel
theorem dX11_stir_8 : decode cX11_stir 8 = .ok (.iconst 5, 1) := by decide +kernel
theorem dX11_stir_9 : decode cX11_stir 9 = .ok (.if_icmp .ge 33, 3) := by decide +kernel
theorem dX11_stir_12 : decode cX11_stir 12 = .ok (.aload_n 0, 1) := by decide +kernel
theorem dX11_stir_13 : decode cX11_stir 13 = .ok (.getfield 70, 3) := by decide +kernel
theorem dX11_stir_16 : decode cX11_stir 16 = .ok (.iload_n 2, 1) := by decide +kernel
theorem dX11_stir_17 : decode cX11_stir 17 = .ok (.iload_n 1, 1) := by decide +kernel
theorem dX11_stir_18 : decode cX11_stir 18 = .ok (.iconst 5, 1) := by decide +kernel
theorem dX11_stir_19 : decode cX11_stir 19 = .ok (.idiv, 1) := by decide +kernel
theorem dX11_stir_20 : decode cX11_stir 20 = .ok (.iconst 4, 1) := by decide +kernel
theorem dX11_stir_21 : decode cX11_stir 21 = .ok (.iload_n 2, 1) := by decide +kernel
theorem dX11_stir_22 : decode cX11_stir 22 = .ok (.isub, 1) := by decide +kernel
theorem dX11_stir_23 : decode cX11_stir 23 = .ok (.iload_n 1, 1) := by decide +kernel
theorem dX11_stir_24 : decode cX11_stir 24 = .ok (.iconst 5, 1) := by decide +kernel
theorem dX11_stir_25 : decode cX11_stir 25 = .ok (.irem, 1) := by decide +kernel
theorem dX11_stir_26 : decode cX11_stir 26 = .ok (.if_icmp .ge 7, 3) := by decide +kernel
theorem dX11_stir_29 : decode cX11_stir 29 = .ok (.iconst 1, 1) := by decide +kernel
theorem dX11_stir_30 : decode cX11_stir 30 = .ok (.goto 4, 3) := by decide +kernel
theorem dX11_stir_33 : decode cX11_stir 33 = .ok (.iconst 0, 1) := by decide +kernel
theorem dX11_stir_34 : decode cX11_stir 34 = .ok (.iadd, 1) := by decide +kernel
theorem dX11_stir_35 : decode cX11_stir 35 = .ok (.iastore, 1) := by decide +kernel
theorem dX11_stir_36 : decode cX11_stir 36 = .ok (.iinc 2 1, 3) := by decide +kernel
theorem dX11_stir_39 : decode cX11_stir 39 = .ok (.goto (-32), 3) := by decide +kernel
theorem dX11_stir_42 : decode cX11_stir 42 = .ok (.return_, 1) := by decide +kernel
theorem dX11_biteOnce_0 : decode cX11_biteOnce 0 = .ok (.aload_n 0, 1) := by decide +kernel
theorem dX11_biteOnce_1 : decode cX11_biteOnce 1 = .ok (.invokevirtual 196, 3) := by decide +kernel
theorem dX11_biteOnce_4 : decode cX11_biteOnce 4 = .ok (.ifCond .ne 4, 3) := by decide +kernel
theorem dX11_biteOnce_7 : decode cX11_biteOnce 7 = .ok (.return_, 1) := by decide +kernel
theorem dX11_biteOnce_8 : decode cX11_biteOnce 8 = .ok (.iconst 0, 1) := by decide +kernel
theorem dX11_biteOnce_9 : decode cX11_biteOnce 9 = .ok (.istore_n 2, 1) := by decide +kernel
theorem dX11_biteOnce_10 : decode cX11_biteOnce 10 = .ok (.aload_n 0, 1) := by decide +kernel
theorem dX11_biteOnce_11 : decode cX11_biteOnce 11 = .ok (.getfield 70, 3) := by decide +kernel
theorem dX11_biteOnce_14 : decode cX11_biteOnce 14 = .ok (.iload_n 2, 1) := by decide +kernel
theorem dX11_biteOnce_15 : decode cX11_biteOnce 15 = .ok (.iaload, 1) := by decide +kernel
theorem dX11_biteOnce_16 : decode cX11_biteOnce 16 = .ok (.ifCond .ne 9, 3) := by decide +kernel
theorem dX11_biteOnce_19 : decode cX11_biteOnce 19 = .ok (.iinc 2 1, 3) := by decide +kernel
theorem dX11_biteOnce_22 : decode cX11_biteOnce 22 = .ok (.goto (-12), 3) := by decide +kernel
theorem dX11_biteOnce_25 : decode cX11_biteOnce 25 = .ok (.aload_n 0, 1) := by decide +kernel
theorem dX11_biteOnce_26 : decode cX11_biteOnce 26 = .ok (.getfield 22, 3) := by decide +kernel
theorem dX11_biteOnce_29 : decode cX11_biteOnce 29 = .ok (.iload_n 1, 1) := by decide +kernel
theorem dX11_biteOnce_30 : decode cX11_biteOnce 30 = .ok (.iaload, 1) := by decide +kernel
theorem dX11_biteOnce_31 : decode cX11_biteOnce 31 = .ok (.aload_n 0, 1) := by decide +kernel
theorem dX11_biteOnce_32 : decode cX11_biteOnce 32 = .ok (.getfield 70, 3) := by decide +kernel
theorem dX11_biteOnce_35 : decode cX11_biteOnce 35 = .ok (.iload_n 2, 1) := by decide +kernel
theorem dX11_biteOnce_36 : decode cX11_biteOnce 36 = .ok (.iaload, 1) := by decide +kernel
theorem dX11_biteOnce_37 : decode cX11_biteOnce 37 = .ok (.if_icmp .ge 12, 3) := by decide +kernel
theorem dX11_biteOnce_40 : decode cX11_biteOnce 40 = .ok (.aload_n 0, 1) := by decide +kernel
theorem dX11_biteOnce_41 : decode cX11_biteOnce 41 = .ok (.getfield 22, 3) := by decide +kernel
theorem dX11_biteOnce_44 : decode cX11_biteOnce 44 = .ok (.iload_n 1, 1) := by decide +kernel
theorem dX11_biteOnce_45 : decode cX11_biteOnce 45 = .ok (.iaload, 1) := by decide +kernel
theorem dX11_biteOnce_46 : decode cX11_biteOnce 46 = .ok (.goto 9, 3) := by decide +kernel
theorem dX11_biteOnce_49 : decode cX11_biteOnce 49 = .ok (.aload_n 0, 1) := by decide +kernel
theorem dX11_biteOnce_50 : decode cX11_biteOnce 50 = .ok (.getfield 70, 3) := by decide +kernel
theorem dX11_biteOnce_53 : decode cX11_biteOnce 53 = .ok (.iload_n 2, 1) := by decide +kernel
theorem dX11_biteOnce_54 : decode cX11_biteOnce 54 = .ok (.iaload, 1) := by decide +kernel
theorem dX11_biteOnce_55 : decode cX11_biteOnce 55 = .ok (.istore_n 3, 1) := by decide +kernel
theorem dX11_biteOnce_56 : decode cX11_biteOnce 56 = .ok (.aload_n 0, 1) := by decide +kernel
theorem dX11_biteOnce_57 : decode cX11_biteOnce 57 = .ok (.getfield 70, 3) := by decide +kernel
theorem dX11_biteOnce_60 : decode cX11_biteOnce 60 = .ok (.iload_n 2, 1) := by decide +kernel
theorem dX11_biteOnce_61 : decode cX11_biteOnce 61 = .ok (.dup2, 1) := by decide +kernel
theorem dX11_biteOnce_62 : decode cX11_biteOnce 62 = .ok (.iaload, 1) := by decide +kernel
theorem dX11_biteOnce_63 : decode cX11_biteOnce 63 = .ok (.iload_n 3, 1) := by decide +kernel
theorem dX11_biteOnce_64 : decode cX11_biteOnce 64 = .ok (.isub, 1) := by decide +kernel
theorem dX11_biteOnce_65 : decode cX11_biteOnce 65 = .ok (.iastore, 1) := by decide +kernel
theorem dX11_biteOnce_66 : decode cX11_biteOnce 66 = .ok (.aload_n 0, 1) := by decide +kernel
theorem dX11_biteOnce_67 : decode cX11_biteOnce 67 = .ok (.getfield 76, 3) := by decide +kernel
theorem dX11_biteOnce_70 : decode cX11_biteOnce 70 = .ok (.iload_n 1, 1) := by decide +kernel
theorem dX11_biteOnce_71 : decode cX11_biteOnce 71 = .ok (.dup2, 1) := by decide +kernel
theorem dX11_biteOnce_72 : decode cX11_biteOnce 72 = .ok (.iaload, 1) := by decide +kernel
theorem dX11_biteOnce_73 : decode cX11_biteOnce 73 = .ok (.iconst 1, 1) := by decide +kernel
theorem dX11_biteOnce_74 : decode cX11_biteOnce 74 = .ok (.iadd, 1) := by decide +kernel
theorem dX11_biteOnce_75 : decode cX11_biteOnce 75 = .ok (.iastore, 1) := by decide +kernel
theorem dX11_biteOnce_76 : decode cX11_biteOnce 76 = .ok (.aload_n 0, 1) := by decide +kernel
theorem dX11_biteOnce_77 : decode cX11_biteOnce 77 = .ok (.getfield 7, 3) := by decide +kernel
theorem dX11_biteOnce_80 : decode cX11_biteOnce 80 = .ok (.iload_n 1, 1) := by decide +kernel
theorem dX11_biteOnce_81 : decode cX11_biteOnce 81 = .ok (.iaload, 1) := by decide +kernel
theorem dX11_biteOnce_82 : decode cX11_biteOnce 82 = .ok (.iconst 4, 1) := by decide +kernel
theorem dX11_biteOnce_83 : decode cX11_biteOnce 83 = .ok (.if_icmp .ne 23, 3) := by decide +kernel
theorem dX11_biteOnce_86 : decode cX11_biteOnce 86 = .ok (.aload_n 0, 1) := by decide +kernel
theorem dX11_biteOnce_87 : decode cX11_biteOnce 87 = .ok (.getfield 76, 3) := by decide +kernel
theorem dX11_biteOnce_90 : decode cX11_biteOnce 90 = .ok (.iload_n 1, 1) := by decide +kernel
theorem dX11_biteOnce_91 : decode cX11_biteOnce 91 = .ok (.iaload, 1) := by decide +kernel
theorem dX11_biteOnce_92 : decode cX11_biteOnce 92 = .ok (.aload_n 0, 1) := by decide +kernel
theorem dX11_biteOnce_93 : decode cX11_biteOnce 93 = .ok (.getfield 13, 3) := by decide +kernel
theorem dX11_biteOnce_96 : decode cX11_biteOnce 96 = .ok (.iload_n 1, 1) := by decide +kernel
theorem dX11_biteOnce_97 : decode cX11_biteOnce 97 = .ok (.iaload, 1) := by decide +kernel
theorem dX11_biteOnce_98 : decode cX11_biteOnce 98 = .ok (.irem, 1) := by decide +kernel
theorem dX11_biteOnce_99 : decode cX11_biteOnce 99 = .ok (.ifCond .ne 7, 3) := by decide +kernel
theorem dX11_biteOnce_102 : decode cX11_biteOnce 102 = .ok (.iconst 1, 1) := by decide +kernel
theorem dX11_biteOnce_103 : decode cX11_biteOnce 103 = .ok (.goto 4, 3) := by decide +kernel
theorem dX11_biteOnce_106 : decode cX11_biteOnce 106 = .ok (.iconst 0, 1) := by decide +kernel
theorem dX11_biteOnce_107 : decode cX11_biteOnce 107 = .ok (.istore 4, 2) := by decide +kernel
theorem dX11_biteOnce_109 : decode cX11_biteOnce 109 = .ok (.iload 4, 2) := by decide +kernel
theorem dX11_biteOnce_111 : decode cX11_biteOnce 111 = .ok (.ifCond .eq 24, 3) := by decide +kernel
theorem dX11_biteOnce_114 : decode cX11_biteOnce 114 = .ok (.aload_n 0, 1) := by decide +kernel
theorem dX11_biteOnce_115 : decode cX11_biteOnce 115 = .ok (.getfield 31, 3) := by decide +kernel
theorem dX11_biteOnce_118 : decode cX11_biteOnce 118 = .ok (.aload_n 0, 1) := by decide +kernel
theorem dX11_biteOnce_119 : decode cX11_biteOnce 119 = .ok (.getfield 28, 3) := by decide +kernel
theorem dX11_biteOnce_122 : decode cX11_biteOnce 122 = .ok (.iload_n 1, 1) := by decide +kernel
theorem dX11_biteOnce_123 : decode cX11_biteOnce 123 = .ok (.iaload, 1) := by decide +kernel
theorem dX11_biteOnce_124 : decode cX11_biteOnce 124 = .ok (.iconst 1, 1) := by decide +kernel
theorem dX11_biteOnce_125 : decode cX11_biteOnce 125 = .ok (.iadd, 1) := by decide +kernel
theorem dX11_biteOnce_126 : decode cX11_biteOnce 126 = .ok (.aload_n 0, 1) := by decide +kernel
theorem dX11_biteOnce_127 : decode cX11_biteOnce 127 = .ok (.getfield 134, 3) := by decide +kernel
theorem dX11_biteOnce_130 : decode cX11_biteOnce 130 = .ok (.irem, 1) := by decide +kernel
theorem dX11_biteOnce_131 : decode cX11_biteOnce 131 = .ok (.iaload, 1) := by decide +kernel
theorem dX11_biteOnce_132 : decode cX11_biteOnce 132 = .ok (.goto 4, 3) := by decide +kernel
theorem dX11_biteOnce_135 : decode cX11_biteOnce 135 = .ok (.iload_n 1, 1) := by decide +kernel
theorem dX11_biteOnce_136 : decode cX11_biteOnce 136 = .ok (.istore 5, 2) := by decide +kernel
theorem dX11_biteOnce_138 : decode cX11_biteOnce 138 = .ok (.iload_n 3, 1) := by decide +kernel
theorem dX11_biteOnce_139 : decode cX11_biteOnce 139 = .ok (.iconst 1, 1) := by decide +kernel
theorem dX11_biteOnce_140 : decode cX11_biteOnce 140 = .ok (.iload_n 2, 1) := by decide +kernel
theorem dX11_biteOnce_141 : decode cX11_biteOnce 141 = .ok (.iadd, 1) := by decide +kernel
theorem dX11_biteOnce_142 : decode cX11_biteOnce 142 = .ok (.imul, 1) := by decide +kernel
theorem dX11_biteOnce_143 : decode cX11_biteOnce 143 = .ok (.istore 6, 2) := by decide +kernel
theorem dX11_biteOnce_145 : decode cX11_biteOnce 145 = .ok (.aload_n 0, 1) := by decide +kernel
theorem dX11_biteOnce_146 : decode cX11_biteOnce 146 = .ok (.getfield 175, 3) := by decide +kernel
theorem dX11_biteOnce_149 : decode cX11_biteOnce 149 = .ok (.bipush 20, 2) := by decide +kernel
theorem dX11_biteOnce_151 : decode cX11_biteOnce 151 = .ok (.if_icmp .ge 10, 3) := by decide +kernel
theorem dX11_biteOnce_154 : decode cX11_biteOnce 154 = .ok (.iload 6, 2) := by decide +kernel
theorem dX11_biteOnce_156 : decode cX11_biteOnce 156 = .ok (.iconst 2, 1) := by decide +kernel
theorem dX11_biteOnce_157 : decode cX11_biteOnce 157 = .ok (.idiv, 1) := by decide +kernel
theorem dX11_biteOnce_158 : decode cX11_biteOnce 158 = .ok (.goto 5, 3) := by decide +kernel
theorem dX11_biteOnce_161 : decode cX11_biteOnce 161 = .ok (.iload 6, 2) := by decide +kernel
theorem dX11_biteOnce_163 : decode cX11_biteOnce 163 = .ok (.istore 6, 2) := by decide +kernel
theorem dX11_biteOnce_165 : decode cX11_biteOnce 165 = .ok (.aload_n 0, 1) := by decide +kernel
theorem dX11_biteOnce_166 : decode cX11_biteOnce 166 = .ok (.getfield 154, 3) := by decide +kernel
theorem dX11_biteOnce_169 : decode cX11_biteOnce 169 = .ok (.ifCond .eq 22, 3) := by decide +kernel
theorem dX11_biteOnce_172 : decode cX11_biteOnce 172 = .ok (.iload_n 2, 1) := by decide +kernel
theorem dX11_biteOnce_173 : decode cX11_biteOnce 173 = .ok (.iconst 4, 1) := by decide +kernel
theorem dX11_biteOnce_174 : decode cX11_biteOnce 174 = .ok (.if_icmp .ne 17, 3) := by decide +kernel
theorem dX11_biteOnce_177 : decode cX11_biteOnce 177 = .ok (.aload_n 0, 1) := by decide +kernel
theorem dX11_biteOnce_178 : decode cX11_biteOnce 178 = .ok (.getfield 19, 3) := by decide +kernel
theorem dX11_biteOnce_181 : decode cX11_biteOnce 181 = .ok (.iload 5, 2) := by decide +kernel
theorem dX11_biteOnce_183 : decode cX11_biteOnce 183 = .ok (.iaload, 1) := by decide +kernel
theorem dX11_biteOnce_184 : decode cX11_biteOnce 184 = .ok (.ifCond .ne 7, 3) := by decide +kernel
theorem dX11_biteOnce_187 : decode cX11_biteOnce 187 = .ok (.iconst 0, 1) := by decide +kernel
theorem dX11_biteOnce_188 : decode cX11_biteOnce 188 = .ok (.goto 5, 3) := by decide +kernel
theorem dX11_biteOnce_191 : decode cX11_biteOnce 191 = .ok (.iload 6, 2) := by decide +kernel
theorem dX11_biteOnce_193 : decode cX11_biteOnce 193 = .ok (.istore 6, 2) := by decide +kernel
theorem dX11_biteOnce_195 : decode cX11_biteOnce 195 = .ok (.aload_n 0, 1) := by decide +kernel
theorem dX11_biteOnce_196 : decode cX11_biteOnce 196 = .ok (.getfield 73, 3) := by decide +kernel
theorem dX11_biteOnce_199 : decode cX11_biteOnce 199 = .ok (.iload 5, 2) := by decide +kernel
theorem dX11_biteOnce_201 : decode cX11_biteOnce 201 = .ok (.dup2, 1) := by decide +kernel
theorem dX11_biteOnce_202 : decode cX11_biteOnce 202 = .ok (.iaload, 1) := by decide +kernel
theorem dX11_biteOnce_203 : decode cX11_biteOnce 203 = .ok (.iload 6, 2) := by decide +kernel
theorem dX11_biteOnce_205 : decode cX11_biteOnce 205 = .ok (.iadd, 1) := by decide +kernel
theorem dX11_biteOnce_206 : decode cX11_biteOnce 206 = .ok (.iastore, 1) := by decide +kernel
theorem dX11_biteOnce_207 : decode cX11_biteOnce 207 = .ok (.aload_n 0, 1) := by decide +kernel
theorem dX11_biteOnce_208 : decode cX11_biteOnce 208 = .ok (.getfield 184, 3) := by decide +kernel
theorem dX11_biteOnce_211 : decode cX11_biteOnce 211 = .ok (.sipush 600, 3) := by decide +kernel
theorem dX11_biteOnce_214 : decode cX11_biteOnce 214 = .ok (.if_icmp .ge 73, 3) := by decide +kernel
theorem dX11_biteOnce_217 : decode cX11_biteOnce 217 = .ok (.aload_n 0, 1) := by decide +kernel
theorem dX11_biteOnce_218 : decode cX11_biteOnce 218 = .ok (.getfield 82, 3) := by decide +kernel
theorem dX11_biteOnce_221 : decode cX11_biteOnce 221 = .ok (.iconst 5, 1) := by decide +kernel
theorem dX11_biteOnce_222 : decode cX11_biteOnce 222 = .ok (.aload_n 0, 1) := by decide +kernel
theorem dX11_biteOnce_223 : decode cX11_biteOnce 223 = .ok (.getfield 184, 3) := by decide +kernel
theorem dX11_biteOnce_226 : decode cX11_biteOnce 226 = .ok (.imul, 1) := by decide +kernel
theorem dX11_biteOnce_227 : decode cX11_biteOnce 227 = .ok (.iload_n 1, 1) := by decide +kernel
theorem dX11_biteOnce_228 : decode cX11_biteOnce 228 = .ok (.iastore, 1) := by decide +kernel
theorem dX11_biteOnce_229 : decode cX11_biteOnce 229 = .ok (.aload_n 0, 1) := by decide +kernel
theorem dX11_biteOnce_230 : decode cX11_biteOnce 230 = .ok (.getfield 82, 3) := by decide +kernel
theorem dX11_biteOnce_233 : decode cX11_biteOnce 233 = .ok (.iconst 5, 1) := by decide +kernel
theorem dX11_biteOnce_234 : decode cX11_biteOnce 234 = .ok (.aload_n 0, 1) := by decide +kernel
theorem dX11_biteOnce_235 : decode cX11_biteOnce 235 = .ok (.getfield 184, 3) := by decide +kernel
theorem dX11_biteOnce_238 : decode cX11_biteOnce 238 = .ok (.imul, 1) := by decide +kernel
theorem dX11_biteOnce_239 : decode cX11_biteOnce 239 = .ok (.iconst 1, 1) := by decide +kernel
theorem dX11_biteOnce_240 : decode cX11_biteOnce 240 = .ok (.iadd, 1) := by decide +kernel
theorem dX11_biteOnce_241 : decode cX11_biteOnce 241 = .ok (.iload 5, 2) := by decide +kernel
theorem dX11_biteOnce_243 : decode cX11_biteOnce 243 = .ok (.iastore, 1) := by decide +kernel
theorem dX11_biteOnce_244 : decode cX11_biteOnce 244 = .ok (.aload_n 0, 1) := by decide +kernel
theorem dX11_biteOnce_245 : decode cX11_biteOnce 245 = .ok (.getfield 82, 3) := by decide +kernel
theorem dX11_biteOnce_248 : decode cX11_biteOnce 248 = .ok (.iconst 5, 1) := by decide +kernel
theorem dX11_biteOnce_249 : decode cX11_biteOnce 249 = .ok (.aload_n 0, 1) := by decide +kernel
theorem dX11_biteOnce_250 : decode cX11_biteOnce 250 = .ok (.getfield 184, 3) := by decide +kernel
theorem dX11_biteOnce_253 : decode cX11_biteOnce 253 = .ok (.imul, 1) := by decide +kernel
theorem dX11_biteOnce_254 : decode cX11_biteOnce 254 = .ok (.iconst 2, 1) := by decide +kernel
theorem dX11_biteOnce_255 : decode cX11_biteOnce 255 = .ok (.iadd, 1) := by decide +kernel
theorem dX11_biteOnce_256 : decode cX11_biteOnce 256 = .ok (.iload_n 2, 1) := by decide +kernel
theorem dX11_biteOnce_257 : decode cX11_biteOnce 257 = .ok (.iastore, 1) := by decide +kernel
theorem dX11_biteOnce_258 : decode cX11_biteOnce 258 = .ok (.aload_n 0, 1) := by decide +kernel
theorem dX11_biteOnce_259 : decode cX11_biteOnce 259 = .ok (.getfield 82, 3) := by decide +kernel
theorem dX11_biteOnce_262 : decode cX11_biteOnce 262 = .ok (.iconst 5, 1) := by decide +kernel
theorem dX11_biteOnce_263 : decode cX11_biteOnce 263 = .ok (.aload_n 0, 1) := by decide +kernel
theorem dX11_biteOnce_264 : decode cX11_biteOnce 264 = .ok (.getfield 184, 3) := by decide +kernel
theorem dX11_biteOnce_267 : decode cX11_biteOnce 267 = .ok (.imul, 1) := by decide +kernel
theorem dX11_biteOnce_268 : decode cX11_biteOnce 268 = .ok (.iconst 3, 1) := by decide +kernel
theorem dX11_biteOnce_269 : decode cX11_biteOnce 269 = .ok (.iadd, 1) := by decide +kernel
theorem dX11_biteOnce_270 : decode cX11_biteOnce 270 = .ok (.iload_n 3, 1) := by decide +kernel
theorem dX11_biteOnce_271 : decode cX11_biteOnce 271 = .ok (.iastore, 1) := by decide +kernel
theorem dX11_biteOnce_272 : decode cX11_biteOnce 272 = .ok (.aload_n 0, 1) := by decide +kernel
theorem dX11_biteOnce_273 : decode cX11_biteOnce 273 = .ok (.getfield 82, 3) := by decide +kernel
theorem dX11_biteOnce_276 : decode cX11_biteOnce 276 = .ok (.iconst 5, 1) := by decide +kernel
theorem dX11_biteOnce_277 : decode cX11_biteOnce 277 = .ok (.aload_n 0, 1) := by decide +kernel
theorem dX11_biteOnce_278 : decode cX11_biteOnce 278 = .ok (.getfield 184, 3) := by decide +kernel
theorem dX11_biteOnce_281 : decode cX11_biteOnce 281 = .ok (.imul, 1) := by decide +kernel
theorem dX11_biteOnce_282 : decode cX11_biteOnce 282 = .ok (.iconst 4, 1) := by decide +kernel
theorem dX11_biteOnce_283 : decode cX11_biteOnce 283 = .ok (.iadd, 1) := by decide +kernel
theorem dX11_biteOnce_284 : decode cX11_biteOnce 284 = .ok (.iload 6, 2) := by decide +kernel
theorem dX11_biteOnce_286 : decode cX11_biteOnce 286 = .ok (.iastore, 1) := by decide +kernel
theorem dX11_biteOnce_287 : decode cX11_biteOnce 287 = .ok (.aload_n 0, 1) := by decide +kernel
theorem dX11_biteOnce_288 : decode cX11_biteOnce 288 = .ok (.dup, 1) := by decide +kernel
theorem dX11_biteOnce_289 : decode cX11_biteOnce 289 = .ok (.getfield 184, 3) := by decide +kernel
theorem dX11_biteOnce_292 : decode cX11_biteOnce 292 = .ok (.iconst 1, 1) := by decide +kernel
theorem dX11_biteOnce_293 : decode cX11_biteOnce 293 = .ok (.iadd, 1) := by decide +kernel
theorem dX11_biteOnce_294 : decode cX11_biteOnce 294 = .ok (.putfield 184, 3) := by decide +kernel
theorem dX11_biteOnce_297 : decode cX11_biteOnce 297 = .ok (.aload_n 0, 1) := by decide +kernel
theorem dX11_biteOnce_298 : decode cX11_biteOnce 298 = .ok (.dup, 1) := by decide +kernel
theorem dX11_biteOnce_299 : decode cX11_biteOnce 299 = .ok (.getfield 187, 3) := by decide +kernel
theorem dX11_biteOnce_302 : decode cX11_biteOnce 302 = .ok (.iload 6, 2) := by decide +kernel
theorem dX11_biteOnce_304 : decode cX11_biteOnce 304 = .ok (.iadd, 1) := by decide +kernel
theorem dX11_biteOnce_305 : decode cX11_biteOnce 305 = .ok (.putfield 187, 3) := by decide +kernel
theorem dX11_biteOnce_308 : decode cX11_biteOnce 308 = .ok (.return_, 1) := by decide +kernel
theorem dX11_biteTurn_0 : decode cX11_biteTurn 0 = .ok (.aload_n 0, 1) := by decide +kernel
theorem dX11_biteTurn_1 : decode cX11_biteTurn 1 = .ok (.getfield 79, 3) := by decide +kernel
theorem dX11_biteTurn_4 : decode cX11_biteTurn 4 = .ok (.iload_n 1, 1) := by decide +kernel
theorem dX11_biteTurn_5 : decode cX11_biteTurn 5 = .ok (.dup2, 1) := by decide +kernel
theorem dX11_biteTurn_6 : decode cX11_biteTurn 6 = .ok (.iaload, 1) := by decide +kernel
theorem dX11_biteTurn_7 : decode cX11_biteTurn 7 = .ok (.iconst 1, 1) := by decide +kernel
theorem dX11_biteTurn_8 : decode cX11_biteTurn 8 = .ok (.iadd, 1) := by decide +kernel
theorem dX11_biteTurn_9 : decode cX11_biteTurn 9 = .ok (.iastore, 1) := by decide +kernel
theorem dX11_biteTurn_10 : decode cX11_biteTurn 10 = .ok (.aload_n 0, 1) := by decide +kernel
theorem dX11_biteTurn_11 : decode cX11_biteTurn 11 = .ok (.getfield 7, 3) := by decide +kernel
theorem dX11_biteTurn_14 : decode cX11_biteTurn 14 = .ok (.iload_n 1, 1) := by decide +kernel
theorem dX11_biteTurn_15 : decode cX11_biteTurn 15 = .ok (.iaload, 1) := by decide +kernel
theorem dX11_biteTurn_16 : decode cX11_biteTurn 16 = .ok (.iconst 3, 1) := by decide +kernel
theorem dX11_biteTurn_17 : decode cX11_biteTurn 17 = .ok (.if_icmp .ne 23, 3) := by decide +kernel
theorem dX11_biteTurn_20 : decode cX11_biteTurn 20 = .ok (.aload_n 0, 1) := by decide +kernel
theorem dX11_biteTurn_21 : decode cX11_biteTurn 21 = .ok (.getfield 79, 3) := by decide +kernel
theorem dX11_biteTurn_24 : decode cX11_biteTurn 24 = .ok (.iload_n 1, 1) := by decide +kernel
theorem dX11_biteTurn_25 : decode cX11_biteTurn 25 = .ok (.iaload, 1) := by decide +kernel
theorem dX11_biteTurn_26 : decode cX11_biteTurn 26 = .ok (.aload_n 0, 1) := by decide +kernel
theorem dX11_biteTurn_27 : decode cX11_biteTurn 27 = .ok (.getfield 13, 3) := by decide +kernel
theorem dX11_biteTurn_30 : decode cX11_biteTurn 30 = .ok (.iload_n 1, 1) := by decide +kernel
theorem dX11_biteTurn_31 : decode cX11_biteTurn 31 = .ok (.iaload, 1) := by decide +kernel
theorem dX11_biteTurn_32 : decode cX11_biteTurn 32 = .ok (.irem, 1) := by decide +kernel
theorem dX11_biteTurn_33 : decode cX11_biteTurn 33 = .ok (.ifCond .ne 7, 3) := by decide +kernel
theorem dX11_biteTurn_36 : decode cX11_biteTurn 36 = .ok (.iconst 1, 1) := by decide +kernel
theorem dX11_biteTurn_37 : decode cX11_biteTurn 37 = .ok (.goto 4, 3) := by decide +kernel
theorem dX11_biteTurn_40 : decode cX11_biteTurn 40 = .ok (.iconst 0, 1) := by decide +kernel
theorem dX11_biteTurn_41 : decode cX11_biteTurn 41 = .ok (.istore_n 2, 1) := by decide +kernel
theorem dX11_biteTurn_42 : decode cX11_biteTurn 42 = .ok (.iconst 1, 1) := by decide +kernel
theorem dX11_biteTurn_43 : decode cX11_biteTurn 43 = .ok (.iload_n 2, 1) := by decide +kernel
theorem dX11_biteTurn_44 : decode cX11_biteTurn 44 = .ok (.ifCond .eq 7, 3) := by decide +kernel
theorem dX11_biteTurn_47 : decode cX11_biteTurn 47 = .ok (.iconst 1, 1) := by decide +kernel
theorem dX11_biteTurn_48 : decode cX11_biteTurn 48 = .ok (.goto 4, 3) := by decide +kernel
theorem dX11_biteTurn_51 : decode cX11_biteTurn 51 = .ok (.iconst 0, 1) := by decide +kernel
theorem dX11_biteTurn_52 : decode cX11_biteTurn 52 = .ok (.iadd, 1) := by decide +kernel
theorem dX11_biteTurn_53 : decode cX11_biteTurn 53 = .ok (.iload_n 1, 1) := by decide +kernel
theorem dX11_biteTurn_54 : decode cX11_biteTurn 54 = .ok (.aload_n 0, 1) := by decide +kernel
theorem dX11_biteTurn_55 : decode cX11_biteTurn 55 = .ok (.getfield 172, 3) := by decide +kernel
theorem dX11_biteTurn_58 : decode cX11_biteTurn 58 = .ok (.if_icmp .ne 7, 3) := by decide +kernel
theorem dX11_biteTurn_61 : decode cX11_biteTurn 61 = .ok (.iconst 1, 1) := by decide +kernel
theorem dX11_biteTurn_62 : decode cX11_biteTurn 62 = .ok (.goto 4, 3) := by decide +kernel
theorem dX11_biteTurn_65 : decode cX11_biteTurn 65 = .ok (.iconst 0, 1) := by decide +kernel
theorem dX11_biteTurn_66 : decode cX11_biteTurn 66 = .ok (.iadd, 1) := by decide +kernel
theorem dX11_biteTurn_67 : decode cX11_biteTurn 67 = .ok (.istore_n 3, 1) := by decide +kernel
theorem dX11_biteTurn_68 : decode cX11_biteTurn 68 = .ok (.iconst 0, 1) := by decide +kernel
theorem dX11_biteTurn_69 : decode cX11_biteTurn 69 = .ok (.istore 4, 2) := by decide +kernel
theorem dX11_biteTurn_71 : decode cX11_biteTurn 71 = .ok (.iload 4, 2) := by decide +kernel
theorem dX11_biteTurn_73 : decode cX11_biteTurn 73 = .ok (.iload_n 3, 1) := by decide +kernel
theorem dX11_biteTurn_74 : decode cX11_biteTurn 74 = .ok (.if_icmp .ge 14, 3) := by decide +kernel
theorem dX11_biteTurn_77 : decode cX11_biteTurn 77 = .ok (.aload_n 0, 1) := by decide +kernel
theorem dX11_biteTurn_78 : decode cX11_biteTurn 78 = .ok (.iload_n 1, 1) := by decide +kernel
theorem dX11_biteTurn_79 : decode cX11_biteTurn 79 = .ok (.invokevirtual 204, 3) := by decide +kernel
theorem dX11_biteTurn_82 : decode cX11_biteTurn 82 = .ok (.iinc 4 1, 3) := by decide +kernel
theorem dX11_biteTurn_85 : decode cX11_biteTurn 85 = .ok (.goto (-14), 3) := by decide +kernel
theorem dX11_biteTurn_88 : decode cX11_biteTurn 88 = .ok (.return_, 1) := by decide +kernel
theorem dX11_takeBeats_0 : decode cX11_takeBeats 0 = .ok (.aload_n 0, 1) := by decide +kernel
theorem dX11_takeBeats_1 : decode cX11_takeBeats 1 = .ok (.dup, 1) := by decide +kernel
theorem dX11_takeBeats_2 : decode cX11_takeBeats 2 = .ok (.getfield 178, 3) := by decide +kernel
theorem dX11_takeBeats_5 : decode cX11_takeBeats 5 = .ok (.iconst 1, 1) := by decide +kernel
theorem dX11_takeBeats_6 : decode cX11_takeBeats 6 = .ok (.iadd, 1) := by decide +kernel
theorem dX11_takeBeats_7 : decode cX11_takeBeats 7 = .ok (.putfield 178, 3) := by decide +kernel
theorem dX11_takeBeats_10 : decode cX11_takeBeats 10 = .ok (.aload_n 0, 1) := by decide +kernel
theorem dX11_takeBeats_11 : decode cX11_takeBeats 11 = .ok (.dup, 1) := by decide +kernel
theorem dX11_takeBeats_12 : decode cX11_takeBeats 12 = .ok (.getfield 181, 3) := by decide +kernel
theorem dX11_takeBeats_15 : decode cX11_takeBeats 15 = .ok (.iload_n 1, 1) := by decide +kernel
theorem dX11_takeBeats_16 : decode cX11_takeBeats 16 = .ok (.iadd, 1) := by decide +kernel
theorem dX11_takeBeats_17 : decode cX11_takeBeats 17 = .ok (.putfield 181, 3) := by decide +kernel
theorem dX11_takeBeats_20 : decode cX11_takeBeats 20 = .ok (.aload_n 0, 1) := by decide +kernel
theorem dX11_takeBeats_21 : decode cX11_takeBeats 21 = .ok (.aload_n 0, 1) := by decide +kernel
theorem dX11_takeBeats_22 : decode cX11_takeBeats 22 = .ok (.getfield 175, 3) := by decide +kernel
theorem dX11_takeBeats_25 : decode cX11_takeBeats 25 = .ok (.iload_n 1, 1) := by decide +kernel
theorem dX11_takeBeats_26 : decode cX11_takeBeats 26 = .ok (.if_icmp .ge 7, 3) := by decide +kernel
theorem dX11_takeBeats_29 : decode cX11_takeBeats 29 = .ok (.iconst 0, 1) := by decide +kernel
theorem dX11_takeBeats_30 : decode cX11_takeBeats 30 = .ok (.goto 9, 3) := by decide +kernel
theorem dX11_takeBeats_33 : decode cX11_takeBeats 33 = .ok (.aload_n 0, 1) := by decide +kernel
theorem dX11_takeBeats_34 : decode cX11_takeBeats 34 = .ok (.getfield 175, 3) := by decide +kernel
theorem dX11_takeBeats_37 : decode cX11_takeBeats 37 = .ok (.iload_n 1, 1) := by decide +kernel
theorem dX11_takeBeats_38 : decode cX11_takeBeats 38 = .ok (.isub, 1) := by decide +kernel
theorem dX11_takeBeats_39 : decode cX11_takeBeats 39 = .ok (.putfield 175, 3) := by decide +kernel
theorem dX11_takeBeats_42 : decode cX11_takeBeats 42 = .ok (.return_, 1) := by decide +kernel
theorem dX11_beatsOf_0 : decode cX11_beatsOf 0 = .ok (.aload_n 0, 1) := by decide +kernel
theorem dX11_beatsOf_1 : decode cX11_beatsOf 1 = .ok (.getfield 7, 3) := by decide +kernel
theorem dX11_beatsOf_4 : decode cX11_beatsOf 4 = .ok (.iload_n 1, 1) := by decide +kernel
theorem dX11_beatsOf_5 : decode cX11_beatsOf 5 = .ok (.iaload, 1) := by decide +kernel
theorem dX11_beatsOf_6 : decode cX11_beatsOf 6 = .ok (.iconst 1, 1) := by decide +kernel
theorem dX11_beatsOf_7 : decode cX11_beatsOf 7 = .ok (.if_icmp .eq 13, 3) := by decide +kernel
theorem dX11_beatsOf_10 : decode cX11_beatsOf 10 = .ok (.aload_n 0, 1) := by decide +kernel
theorem dX11_beatsOf_11 : decode cX11_beatsOf 11 = .ok (.getfield 7, 3) := by decide +kernel
theorem dX11_beatsOf_14 : decode cX11_beatsOf 14 = .ok (.iload_n 1, 1) := by decide +kernel
theorem dX11_beatsOf_15 : decode cX11_beatsOf 15 = .ok (.iaload, 1) := by decide +kernel
theorem dX11_beatsOf_16 : decode cX11_beatsOf 16 = .ok (.iconst 4, 1) := by decide +kernel
theorem dX11_beatsOf_17 : decode cX11_beatsOf 17 = .ok (.if_icmp .ne 12, 3) := by decide +kernel
theorem dX11_beatsOf_20 : decode cX11_beatsOf 20 = .ok (.aload_n 0, 1) := by decide +kernel
theorem dX11_beatsOf_21 : decode cX11_beatsOf 21 = .ok (.getfield 13, 3) := by decide +kernel
theorem dX11_beatsOf_24 : decode cX11_beatsOf 24 = .ok (.iload_n 1, 1) := by decide +kernel
theorem dX11_beatsOf_25 : decode cX11_beatsOf 25 = .ok (.iaload, 1) := by decide +kernel
theorem dX11_beatsOf_26 : decode cX11_beatsOf 26 = .ok (.goto 4, 3) := by decide +kernel
theorem dX11_beatsOf_29 : decode cX11_beatsOf 29 = .ok (.iconst 1, 1) := by decide +kernel
theorem dX11_beatsOf_30 : decode cX11_beatsOf 30 = .ok (.ireturn, 1) := by decide +kernel
theorem dX11_goDay_0 : decode cX11_goDay 0 = .ok (.aload_n 0, 1) := by decide +kernel
theorem dX11_goDay_1 : decode cX11_goDay 1 = .ok (.invokevirtual 208, 3) := by decide +kernel
theorem dX11_goDay_4 : decode cX11_goDay 4 = .ok (.iload_n 1, 1) := by decide +kernel
theorem dX11_goDay_5 : decode cX11_goDay 5 = .ok (.istore_n 3, 1) := by decide +kernel
theorem dX11_goDay_6 : decode cX11_goDay 6 = .ok (.aload_n 0, 1) := by decide +kernel
theorem dX11_goDay_7 : decode cX11_goDay 7 = .ok (.getfield 178, 3) := by decide +kernel
theorem dX11_goDay_10 : decode cX11_goDay 10 = .ok (.iload_n 2, 1) := by decide +kernel
theorem dX11_goDay_11 : decode cX11_goDay 11 = .ok (.if_icmp .ge 84, 3) := by decide +kernel
theorem dX11_goDay_14 : decode cX11_goDay 14 = .ok (.aload_n 0, 1) := by decide +kernel
theorem dX11_goDay_15 : decode cX11_goDay 15 = .ok (.invokevirtual 211, 3) := by decide +kernel
theorem dX11_goDay_18 : decode cX11_goDay 18 = .ok (.ifCond .ne 77, 3) := by decide +kernel
theorem dX11_goDay_21 : decode cX11_goDay 21 = .ok (.aload_n 0, 1) := by decide +kernel
theorem dX11_goDay_22 : decode cX11_goDay 22 = .ok (.getfield 31, 3) := by decide +kernel
theorem dX11_goDay_25 : decode cX11_goDay 25 = .ok (.iload_n 3, 1) := by decide +kernel
theorem dX11_goDay_26 : decode cX11_goDay 26 = .ok (.iaload, 1) := by decide +kernel
theorem dX11_goDay_27 : decode cX11_goDay 27 = .ok (.istore 4, 2) := by decide +kernel
theorem dX11_goDay_29 : decode cX11_goDay 29 = .ok (.aload_n 0, 1) := by decide +kernel
theorem dX11_goDay_30 : decode cX11_goDay 30 = .ok (.iload 4, 2) := by decide +kernel
theorem dX11_goDay_32 : decode cX11_goDay 32 = .ok (.invokevirtual 193, 3) := by decide +kernel
theorem dX11_goDay_35 : decode cX11_goDay 35 = .ok (.ifCond .ne 47, 3) := by decide +kernel
theorem dX11_goDay_38 : decode cX11_goDay 38 = .ok (.aload_n 0, 1) := by decide +kernel
theorem dX11_goDay_39 : decode cX11_goDay 39 = .ok (.getfield 160, 3) := by decide +kernel
theorem dX11_goDay_42 : decode cX11_goDay 42 = .ok (.ifCond .le 24, 3) := by decide +kernel
theorem dX11_goDay_45 : decode cX11_goDay 45 = .ok (.aload_n 0, 1) := by decide +kernel
theorem dX11_goDay_46 : decode cX11_goDay 46 = .ok (.getfield 178, 3) := by decide +kernel
theorem dX11_goDay_49 : decode cX11_goDay 49 = .ok (.iconst 1, 1) := by decide +kernel
theorem dX11_goDay_50 : decode cX11_goDay 50 = .ok (.iadd, 1) := by decide +kernel
theorem dX11_goDay_51 : decode cX11_goDay 51 = .ok (.aload_n 0, 1) := by decide +kernel
theorem dX11_goDay_52 : decode cX11_goDay 52 = .ok (.getfield 160, 3) := by decide +kernel
theorem dX11_goDay_55 : decode cX11_goDay 55 = .ok (.irem, 1) := by decide +kernel
theorem dX11_goDay_56 : decode cX11_goDay 56 = .ok (.ifCond .ne 10, 3) := by decide +kernel
theorem dX11_goDay_59 : decode cX11_goDay 59 = .ok (.aload_n 0, 1) := by decide +kernel
theorem dX11_goDay_60 : decode cX11_goDay 60 = .ok (.invokevirtual 214, 3) := by decide +kernel
theorem dX11_goDay_63 : decode cX11_goDay 63 = .ok (.goto 9, 3) := by decide +kernel
theorem dX11_goDay_66 : decode cX11_goDay 66 = .ok (.aload_n 0, 1) := by decide +kernel
theorem dX11_goDay_67 : decode cX11_goDay 67 = .ok (.iload 4, 2) := by decide +kernel
theorem dX11_goDay_69 : decode cX11_goDay 69 = .ok (.invokevirtual 217, 3) := by decide +kernel
theorem dX11_goDay_72 : decode cX11_goDay 72 = .ok (.aload_n 0, 1) := by decide +kernel
theorem dX11_goDay_73 : decode cX11_goDay 73 = .ok (.aload_n 0, 1) := by decide +kernel
theorem dX11_goDay_74 : decode cX11_goDay 74 = .ok (.iload 4, 2) := by decide +kernel
theorem dX11_goDay_76 : decode cX11_goDay 76 = .ok (.invokevirtual 220, 3) := by decide +kernel
theorem dX11_goDay_79 : decode cX11_goDay 79 = .ok (.invokevirtual 223, 3) := by decide +kernel
theorem dX11_goDay_82 : decode cX11_goDay 82 = .ok (.aload_n 0, 1) := by decide +kernel
theorem dX11_goDay_83 : decode cX11_goDay 83 = .ok (.iload_n 3, 1) := by decide +kernel
theorem dX11_goDay_84 : decode cX11_goDay 84 = .ok (.aload_n 0, 1) := by decide +kernel
theorem dX11_goDay_85 : decode cX11_goDay 85 = .ok (.getfield 157, 3) := by decide +kernel
theorem dX11_goDay_88 : decode cX11_goDay 88 = .ok (.invokevirtual 226, 3) := by decide +kernel
theorem dX11_goDay_91 : decode cX11_goDay 91 = .ok (.istore_n 3, 1) := by decide +kernel
theorem dX11_goDay_92 : decode cX11_goDay 92 = .ok (.goto (-86), 3) := by decide +kernel
theorem dX11_goDay_95 : decode cX11_goDay 95 = .ok (.return_, 1) := by decide +kernel
theorem dX11_isDay_0 : decode cX11_isDay 0 = .ok (.aload_n 0, 1) := by decide +kernel
theorem dX11_isDay_1 : decode cX11_isDay 1 = .ok (.iload_n 1, 1) := by decide +kernel
theorem dX11_isDay_2 : decode cX11_isDay 2 = .ok (.invokevirtual 127, 3) := by decide +kernel
theorem dX11_isDay_5 : decode cX11_isDay 5 = .ok (.ifCond .eq 15, 3) := by decide +kernel
theorem dX11_isDay_8 : decode cX11_isDay 8 = .ok (.aload_n 0, 1) := by decide +kernel
theorem dX11_isDay_9 : decode cX11_isDay 9 = .ok (.iload_n 2, 1) := by decide +kernel
theorem dX11_isDay_10 : decode cX11_isDay 10 = .ok (.invokevirtual 147, 3) := by decide +kernel
theorem dX11_isDay_13 : decode cX11_isDay 13 = .ok (.ifCond .eq 7, 3) := by decide +kernel
theorem dX11_isDay_16 : decode cX11_isDay 16 = .ok (.iconst 1, 1) := by decide +kernel
theorem dX11_isDay_17 : decode cX11_isDay 17 = .ok (.goto 4, 3) := by decide +kernel
theorem dX11_isDay_20 : decode cX11_isDay 20 = .ok (.iconst 0, 1) := by decide +kernel
theorem dX11_isDay_21 : decode cX11_isDay 21 = .ok (.ireturn, 1) := by decide +kernel
theorem dX11_areFasts_0 : decode cX11_areFasts 0 = .ok (.iload_n 1, 1) := by decide +kernel
theorem dX11_areFasts_1 : decode cX11_areFasts 1 = .ok (.iconst 0, 1) := by decide +kernel
theorem dX11_areFasts_2 : decode cX11_areFasts 2 = .ok (.iconst 1, 1) := by decide +kernel
theorem dX11_areFasts_3 : decode cX11_areFasts 3 = .ok (.aload_n 0, 1) := by decide +kernel
theorem dX11_areFasts_4 : decode cX11_areFasts 4 = .ok (.getfield 134, 3) := by decide +kernel
theorem dX11_areFasts_7 : decode cX11_areFasts 7 = .ok (.ishl, 1) := by decide +kernel
theorem dX11_areFasts_8 : decode cX11_areFasts 8 = .ok (.iconst 1, 1) := by decide +kernel
theorem dX11_areFasts_9 : decode cX11_areFasts 9 = .ok (.isub, 1) := by decide +kernel
theorem dX11_areFasts_10 : decode cX11_areFasts 10 = .ok (.invokestatic 90, 3) := by decide +kernel
theorem dX11_areFasts_13 : decode cX11_areFasts 13 = .ok (.ireturn, 1) := by decide +kernel
theorem dX11_layDay_0 : decode cX11_layDay 0 = .ok (.aload_n 0, 1) := by decide +kernel
theorem dX11_layDay_1 : decode cX11_layDay 1 = .ok (.iload_n 1, 1) := by decide +kernel
theorem dX11_layDay_2 : decode cX11_layDay 2 = .ok (.invokevirtual 230, 3) := by decide +kernel
theorem dX11_layDay_5 : decode cX11_layDay 5 = .ok (.aload_n 0, 1) := by decide +kernel
theorem dX11_layDay_6 : decode cX11_layDay 6 = .ok (.invokevirtual 233, 3) := by decide +kernel
theorem dX11_layDay_9 : decode cX11_layDay 9 = .ok (.aload_n 0, 1) := by decide +kernel
theorem dX11_layDay_10 : decode cX11_layDay 10 = .ok (.iload_n 3, 1) := by decide +kernel
theorem dX11_layDay_11 : decode cX11_layDay 11 = .ok (.putfield 169, 3) := by decide +kernel
theorem dX11_layDay_14 : decode cX11_layDay 14 = .ok (.aload_n 0, 1) := by decide +kernel
theorem dX11_layDay_15 : decode cX11_layDay 15 = .ok (.iload_n 2, 1) := by decide +kernel
theorem dX11_layDay_16 : decode cX11_layDay 16 = .ok (.ldc 236, 2) := by decide +kernel
theorem dX11_layDay_18 : decode cX11_layDay 18 = .ok (.invokevirtual 237, 3) := by decide +kernel
theorem dX11_layDay_21 : decode cX11_layDay 21 = .ok (.return_, 1) := by decide +kernel
theorem dX11_dayNow_0 : decode cX11_dayNow 0 = .ok (.iload_n 1, 1) := by decide +kernel
theorem dX11_dayNow_1 : decode cX11_dayNow 1 = .ok (.tableswitch 60 0 4 #[35, 40, 45, 50, 55], 35) := by decide +kernel
theorem dX11_dayNow_36 : decode cX11_dayNow 36 = .ok (.aload_n 0, 1) := by decide +kernel
theorem dX11_dayNow_37 : decode cX11_dayNow 37 = .ok (.getfield 178, 3) := by decide +kernel
theorem dX11_dayNow_40 : decode cX11_dayNow 40 = .ok (.ireturn, 1) := by decide +kernel
theorem dX11_dayNow_41 : decode cX11_dayNow 41 = .ok (.aload_n 0, 1) := by decide +kernel
theorem dX11_dayNow_42 : decode cX11_dayNow 42 = .ok (.getfield 181, 3) := by decide +kernel
theorem dX11_dayNow_45 : decode cX11_dayNow 45 = .ok (.ireturn, 1) := by decide +kernel
theorem dX11_dayNow_46 : decode cX11_dayNow 46 = .ok (.aload_n 0, 1) := by decide +kernel
theorem dX11_dayNow_47 : decode cX11_dayNow 47 = .ok (.invokevirtual 196, 3) := by decide +kernel
theorem dX11_dayNow_50 : decode cX11_dayNow 50 = .ok (.ireturn, 1) := by decide +kernel
theorem dX11_dayNow_51 : decode cX11_dayNow 51 = .ok (.aload_n 0, 1) := by decide +kernel
theorem dX11_dayNow_52 : decode cX11_dayNow 52 = .ok (.getfield 184, 3) := by decide +kernel
theorem dX11_dayNow_55 : decode cX11_dayNow 55 = .ok (.ireturn, 1) := by decide +kernel
theorem dX11_dayNow_56 : decode cX11_dayNow 56 = .ok (.aload_n 0, 1) := by decide +kernel
theorem dX11_dayNow_57 : decode cX11_dayNow 57 = .ok (.getfield 187, 3) := by decide +kernel
theorem dX11_dayNow_60 : decode cX11_dayNow 60 = .ok (.ireturn, 1) := by decide +kernel
theorem dX11_dayNow_61 : decode cX11_dayNow 61 = .ok (.aload_n 0, 1) := by decide +kernel
theorem dX11_dayNow_62 : decode cX11_dayNow 62 = .ok (.getfield 175, 3) := by decide +kernel
theorem dX11_dayNow_65 : decode cX11_dayNow 65 = .ok (.ireturn, 1) := by decide +kernel
theorem dX11_day_0 : decode cX11_day 0 = .ok (.aload_n 0, 1) := by decide +kernel
theorem dX11_day_1 : decode cX11_day 1 = .ok (.iload_n 1, 1) := by decide +kernel
theorem dX11_day_2 : decode cX11_day 2 = .ok (.iload_n 2, 1) := by decide +kernel
theorem dX11_day_3 : decode cX11_day 3 = .ok (.invokevirtual 240, 3) := by decide +kernel
theorem dX11_day_6 : decode cX11_day 6 = .ok (.ifCond .ne 6, 3) := by decide +kernel
theorem dX11_day_9 : decode cX11_day 9 = .ok (.bipush (-101), 2) := by decide +kernel
theorem dX11_day_11 : decode cX11_day 11 = .ok (.ireturn, 1) := by decide +kernel
theorem dX11_day_12 : decode cX11_day 12 = .ok (.aload_n 0, 1) := by decide +kernel
theorem dX11_day_13 : decode cX11_day 13 = .ok (.iload_n 3, 1) := by decide +kernel
theorem dX11_day_14 : decode cX11_day 14 = .ok (.invokevirtual 243, 3) := by decide +kernel
theorem dX11_day_17 : decode cX11_day 17 = .ok (.ifCond .eq 13, 3) := by decide +kernel
theorem dX11_day_20 : decode cX11_day 20 = .ok (.iload 4, 2) := by decide +kernel
theorem dX11_day_22 : decode cX11_day 22 = .ok (.iconst 0, 1) := by decide +kernel
theorem dX11_day_23 : decode cX11_day 23 = .ok (.iconst 5, 1) := by decide +kernel
theorem dX11_day_24 : decode cX11_day 24 = .ok (.invokestatic 90, 3) := by decide +kernel
theorem dX11_day_27 : decode cX11_day 27 = .ok (.ifCond .ne 6, 3) := by decide +kernel
theorem dX11_day_30 : decode cX11_day 30 = .ok (.bipush (-102), 2) := by decide +kernel
theorem dX11_day_32 : decode cX11_day 32 = .ok (.ireturn, 1) := by decide +kernel
theorem dX11_day_33 : decode cX11_day 33 = .ok (.aload_n 0, 1) := by decide +kernel
theorem dX11_day_34 : decode cX11_day 34 = .ok (.iload_n 1, 1) := by decide +kernel
theorem dX11_day_35 : decode cX11_day 35 = .ok (.iload_n 2, 1) := by decide +kernel
theorem dX11_day_36 : decode cX11_day 36 = .ok (.iload_n 3, 1) := by decide +kernel
theorem dX11_day_37 : decode cX11_day 37 = .ok (.invokevirtual 246, 3) := by decide +kernel
theorem dX11_day_40 : decode cX11_day 40 = .ok (.aload_n 0, 1) := by decide +kernel
theorem dX11_day_41 : decode cX11_day 41 = .ok (.iload 4, 2) := by decide +kernel
theorem dX11_day_43 : decode cX11_day 43 = .ok (.invokevirtual 250, 3) := by decide +kernel
theorem dX11_day_46 : decode cX11_day 46 = .ok (.ireturn, 1) := by decide +kernel
theorem dX11_meal_0 : decode cX11_meal 0 = .ok (.aload_n 0, 1) := by decide +kernel
theorem dX11_meal_1 : decode cX11_meal 1 = .ok (.iload_n 1, 1) := by decide +kernel
theorem dX11_meal_2 : decode cX11_meal 2 = .ok (.iload_n 2, 1) := by decide +kernel
theorem dX11_meal_3 : decode cX11_meal 3 = .ok (.invokevirtual 240, 3) := by decide +kernel
theorem dX11_meal_6 : decode cX11_meal 6 = .ok (.ifCond .eq 12, 3) := by decide +kernel
theorem dX11_meal_9 : decode cX11_meal 9 = .ok (.aload_n 0, 1) := by decide +kernel
theorem dX11_meal_10 : decode cX11_meal 10 = .ok (.iload 4, 2) := by decide +kernel
theorem dX11_meal_12 : decode cX11_meal 12 = .ok (.invokevirtual 141, 3) := by decide +kernel
theorem dX11_meal_15 : decode cX11_meal 15 = .ok (.ifCond .ne 6, 3) := by decide +kernel
theorem dX11_meal_18 : decode cX11_meal 18 = .ok (.bipush (-101), 2) := by decide +kernel
theorem dX11_meal_20 : decode cX11_meal 20 = .ok (.ireturn, 1) := by decide +kernel
theorem dX11_meal_21 : decode cX11_meal 21 = .ok (.aload_n 0, 1) := by decide +kernel
theorem dX11_meal_22 : decode cX11_meal 22 = .ok (.iload_n 3, 1) := by decide +kernel
theorem dX11_meal_23 : decode cX11_meal 23 = .ok (.invokevirtual 243, 3) := by decide +kernel
theorem dX11_meal_26 : decode cX11_meal 26 = .ok (.ifCond .ne 6, 3) := by decide +kernel
theorem dX11_meal_29 : decode cX11_meal 29 = .ok (.bipush (-102), 2) := by decide +kernel
theorem dX11_meal_31 : decode cX11_meal 31 = .ok (.ireturn, 1) := by decide +kernel
theorem dX11_meal_32 : decode cX11_meal 32 = .ok (.aload_n 0, 1) := by decide +kernel
theorem dX11_meal_33 : decode cX11_meal 33 = .ok (.iload_n 1, 1) := by decide +kernel
theorem dX11_meal_34 : decode cX11_meal 34 = .ok (.iload_n 2, 1) := by decide +kernel
theorem dX11_meal_35 : decode cX11_meal 35 = .ok (.iload_n 3, 1) := by decide +kernel
theorem dX11_meal_36 : decode cX11_meal 36 = .ok (.invokevirtual 246, 3) := by decide +kernel
theorem dX11_meal_39 : decode cX11_meal 39 = .ok (.aload_n 0, 1) := by decide +kernel
theorem dX11_meal_40 : decode cX11_meal 40 = .ok (.getfield 73, 3) := by decide +kernel
theorem dX11_meal_43 : decode cX11_meal 43 = .ok (.iload 4, 2) := by decide +kernel
theorem dX11_meal_45 : decode cX11_meal 45 = .ok (.iaload, 1) := by decide +kernel
theorem dX11_meal_46 : decode cX11_meal 46 = .ok (.ireturn, 1) := by decide +kernel
theorem dX11_bite_0 : decode cX11_bite 0 = .ok (.aload_n 0, 1) := by decide +kernel
theorem dX11_bite_1 : decode cX11_bite 1 = .ok (.iload_n 1, 1) := by decide +kernel
theorem dX11_bite_2 : decode cX11_bite 2 = .ok (.iload_n 2, 1) := by decide +kernel
theorem dX11_bite_3 : decode cX11_bite 3 = .ok (.invokevirtual 240, 3) := by decide +kernel
theorem dX11_bite_6 : decode cX11_bite 6 = .ok (.ifCond .ne 6, 3) := by decide +kernel
theorem dX11_bite_9 : decode cX11_bite 9 = .ok (.bipush (-101), 2) := by decide +kernel
theorem dX11_bite_11 : decode cX11_bite 11 = .ok (.ireturn, 1) := by decide +kernel
theorem dX11_bite_12 : decode cX11_bite 12 = .ok (.aload_n 0, 1) := by decide +kernel
theorem dX11_bite_13 : decode cX11_bite 13 = .ok (.iload_n 3, 1) := by decide +kernel
theorem dX11_bite_14 : decode cX11_bite 14 = .ok (.invokevirtual 243, 3) := by decide +kernel
theorem dX11_bite_17 : decode cX11_bite 17 = .ok (.ifCond .eq 25, 3) := by decide +kernel
theorem dX11_bite_20 : decode cX11_bite 20 = .ok (.iload 4, 2) := by decide +kernel
theorem dX11_bite_22 : decode cX11_bite 22 = .ok (.iconst 0, 1) := by decide +kernel
theorem dX11_bite_23 : decode cX11_bite 23 = .ok (.sipush 599, 3) := by decide +kernel
theorem dX11_bite_26 : decode cX11_bite 26 = .ok (.invokestatic 90, 3) := by decide +kernel
theorem dX11_bite_29 : decode cX11_bite 29 = .ok (.ifCond .eq 13, 3) := by decide +kernel
theorem dX11_bite_32 : decode cX11_bite 32 = .ok (.iload 5, 2) := by decide +kernel
theorem dX11_bite_34 : decode cX11_bite 34 = .ok (.iconst 0, 1) := by decide +kernel
theorem dX11_bite_35 : decode cX11_bite 35 = .ok (.iconst 4, 1) := by decide +kernel
theorem dX11_bite_36 : decode cX11_bite 36 = .ok (.invokestatic 90, 3) := by decide +kernel
theorem dX11_bite_39 : decode cX11_bite 39 = .ok (.ifCond .ne 6, 3) := by decide +kernel
theorem dX11_bite_42 : decode cX11_bite 42 = .ok (.bipush (-102), 2) := by decide +kernel
theorem dX11_bite_44 : decode cX11_bite 44 = .ok (.ireturn, 1) := by decide +kernel
theorem dX11_bite_45 : decode cX11_bite 45 = .ok (.aload_n 0, 1) := by decide +kernel
theorem dX11_bite_46 : decode cX11_bite 46 = .ok (.iload_n 1, 1) := by decide +kernel
theorem dX11_bite_47 : decode cX11_bite 47 = .ok (.iload_n 2, 1) := by decide +kernel
theorem dX11_bite_48 : decode cX11_bite 48 = .ok (.iload_n 3, 1) := by decide +kernel
theorem dX11_bite_49 : decode cX11_bite 49 = .ok (.invokevirtual 246, 3) := by decide +kernel
theorem dX11_bite_52 : decode cX11_bite 52 = .ok (.iload 4, 2) := by decide +kernel
theorem dX11_bite_54 : decode cX11_bite 54 = .ok (.aload_n 0, 1) := by decide +kernel
theorem dX11_bite_55 : decode cX11_bite 55 = .ok (.getfield 184, 3) := by decide +kernel
theorem dX11_bite_58 : decode cX11_bite 58 = .ok (.if_icmp .ge 18, 3) := by decide +kernel
theorem dX11_bite_61 : decode cX11_bite 61 = .ok (.aload_n 0, 1) := by decide +kernel
theorem dX11_bite_62 : decode cX11_bite 62 = .ok (.getfield 82, 3) := by decide +kernel
theorem dX11_bite_65 : decode cX11_bite 65 = .ok (.iconst 5, 1) := by decide +kernel
theorem dX11_bite_66 : decode cX11_bite 66 = .ok (.iload 4, 2) := by decide +kernel
theorem dX11_bite_68 : decode cX11_bite 68 = .ok (.imul, 1) := by decide +kernel
theorem dX11_bite_69 : decode cX11_bite 69 = .ok (.iload 5, 2) := by decide +kernel
theorem dX11_bite_71 : decode cX11_bite 71 = .ok (.iadd, 1) := by decide +kernel
theorem dX11_bite_72 : decode cX11_bite 72 = .ok (.iaload, 1) := by decide +kernel
theorem dX11_bite_73 : decode cX11_bite 73 = .ok (.goto 4, 3) := by decide +kernel
theorem dX11_bite_76 : decode cX11_bite 76 = .ok (.iconst (-1), 1) := by decide +kernel
theorem dX11_bite_77 : decode cX11_bite 77 = .ok (.ireturn, 1) := by decide +kernel
theorem dX11_leastNow_0 : decode cX11_leastNow 0 = .ok (.ldc 236, 2) := by decide +kernel
theorem dX11_leastNow_2 : decode cX11_leastNow 2 = .ok (.istore_n 1, 1) := by decide +kernel
theorem dX11_leastNow_3 : decode cX11_leastNow 3 = .ok (.iconst 0, 1) := by decide +kernel
theorem dX11_leastNow_4 : decode cX11_leastNow 4 = .ok (.istore_n 2, 1) := by decide +kernel
theorem dX11_leastNow_5 : decode cX11_leastNow 5 = .ok (.iload_n 2, 1) := by decide +kernel
theorem dX11_leastNow_6 : decode cX11_leastNow 6 = .ok (.aload_n 0, 1) := by decide +kernel
theorem dX11_leastNow_7 : decode cX11_leastNow 7 = .ok (.getfield 134, 3) := by decide +kernel
theorem dX11_leastNow_10 : decode cX11_leastNow 10 = .ok (.if_icmp .ge 43, 3) := by decide +kernel
theorem dX11_leastNow_13 : decode cX11_leastNow 13 = .ok (.aload_n 0, 1) := by decide +kernel
theorem dX11_leastNow_14 : decode cX11_leastNow 14 = .ok (.getfield 73, 3) := by decide +kernel
theorem dX11_leastNow_17 : decode cX11_leastNow 17 = .ok (.iload_n 2, 1) := by decide +kernel
theorem dX11_leastNow_18 : decode cX11_leastNow 18 = .ok (.iaload, 1) := by decide +kernel
theorem dX11_leastNow_19 : decode cX11_leastNow 19 = .ok (.aload_n 0, 1) := by decide +kernel
theorem dX11_leastNow_20 : decode cX11_leastNow 20 = .ok (.getfield 16, 3) := by decide +kernel
theorem dX11_leastNow_23 : decode cX11_leastNow 23 = .ok (.iload_n 2, 1) := by decide +kernel
theorem dX11_leastNow_24 : decode cX11_leastNow 24 = .ok (.iaload, 1) := by decide +kernel
theorem dX11_leastNow_25 : decode cX11_leastNow 25 = .ok (.isub, 1) := by decide +kernel
theorem dX11_leastNow_26 : decode cX11_leastNow 26 = .ok (.istore_n 3, 1) := by decide +kernel
theorem dX11_leastNow_27 : decode cX11_leastNow 27 = .ok (.aload_n 0, 1) := by decide +kernel
theorem dX11_leastNow_28 : decode cX11_leastNow 28 = .ok (.getfield 67, 3) := by decide +kernel
theorem dX11_leastNow_31 : decode cX11_leastNow 31 = .ok (.iload_n 2, 1) := by decide +kernel
theorem dX11_leastNow_32 : decode cX11_leastNow 32 = .ok (.iaload, 1) := by decide +kernel
theorem dX11_leastNow_33 : decode cX11_leastNow 33 = .ok (.ifCond .lt 12, 3) := by decide +kernel
theorem dX11_leastNow_36 : decode cX11_leastNow 36 = .ok (.iload_n 3, 1) := by decide +kernel
theorem dX11_leastNow_37 : decode cX11_leastNow 37 = .ok (.iload_n 1, 1) := by decide +kernel
theorem dX11_leastNow_38 : decode cX11_leastNow 38 = .ok (.if_icmp .ge 7, 3) := by decide +kernel
theorem dX11_leastNow_41 : decode cX11_leastNow 41 = .ok (.iload_n 3, 1) := by decide +kernel
theorem dX11_leastNow_42 : decode cX11_leastNow 42 = .ok (.goto 4, 3) := by decide +kernel
theorem dX11_leastNow_45 : decode cX11_leastNow 45 = .ok (.iload_n 1, 1) := by decide +kernel
theorem dX11_leastNow_46 : decode cX11_leastNow 46 = .ok (.istore_n 1, 1) := by decide +kernel
theorem dX11_leastNow_47 : decode cX11_leastNow 47 = .ok (.iinc 2 1, 3) := by decide +kernel
theorem dX11_leastNow_50 : decode cX11_leastNow 50 = .ok (.goto (-45), 3) := by decide +kernel
theorem dX11_leastNow_53 : decode cX11_leastNow 53 = .ok (.iload_n 1, 1) := by decide +kernel
theorem dX11_leastNow_54 : decode cX11_leastNow 54 = .ok (.ldc 236, 2) := by decide +kernel
theorem dX11_leastNow_56 : decode cX11_leastNow 56 = .ok (.if_icmp .ne 7, 3) := by decide +kernel
theorem dX11_leastNow_59 : decode cX11_leastNow 59 = .ok (.iconst 0, 1) := by decide +kernel
theorem dX11_leastNow_60 : decode cX11_leastNow 60 = .ok (.goto 4, 3) := by decide +kernel
theorem dX11_leastNow_63 : decode cX11_leastNow 63 = .ok (.iload_n 1, 1) := by decide +kernel
theorem dX11_leastNow_64 : decode cX11_leastNow 64 = .ok (.ireturn, 1) := by decide +kernel
theorem dX11_leastOf_0 : decode cX11_leastOf 0 = .ok (.aload_n 0, 1) := by decide +kernel
theorem dX11_leastOf_1 : decode cX11_leastOf 1 = .ok (.iload_n 1, 1) := by decide +kernel
theorem dX11_leastOf_2 : decode cX11_leastOf 2 = .ok (.iload_n 2, 1) := by decide +kernel
theorem dX11_leastOf_3 : decode cX11_leastOf 3 = .ok (.iconst 0, 1) := by decide +kernel
theorem dX11_leastOf_4 : decode cX11_leastOf 4 = .ok (.invokevirtual 246, 3) := by decide +kernel
theorem dX11_leastOf_7 : decode cX11_leastOf 7 = .ok (.aload_n 0, 1) := by decide +kernel
theorem dX11_leastOf_8 : decode cX11_leastOf 8 = .ok (.invokevirtual 253, 3) := by decide +kernel
theorem dX11_leastOf_11 : decode cX11_leastOf 11 = .ok (.ireturn, 1) := by decide +kernel
theorem dX11_least_0 : decode cX11_least 0 = .ok (.aload_n 0, 1) := by decide +kernel
theorem dX11_least_1 : decode cX11_least 1 = .ok (.iload_n 1, 1) := by decide +kernel
theorem dX11_least_2 : decode cX11_least 2 = .ok (.iload_n 2, 1) := by decide +kernel
theorem dX11_least_3 : decode cX11_least 3 = .ok (.invokevirtual 240, 3) := by decide +kernel
theorem dX11_least_6 : decode cX11_least 6 = .ok (.ifCond .eq 12, 3) := by decide +kernel
theorem dX11_least_9 : decode cX11_least 9 = .ok (.aload_n 0, 1) := by decide +kernel
theorem dX11_least_10 : decode cX11_least 10 = .ok (.iload_n 1, 1) := by decide +kernel
theorem dX11_least_11 : decode cX11_least 11 = .ok (.iload_n 2, 1) := by decide +kernel
theorem dX11_least_12 : decode cX11_least 12 = .ok (.invokevirtual 256, 3) := by decide +kernel
theorem dX11_least_15 : decode cX11_least 15 = .ok (.goto 6, 3) := by decide +kernel
theorem dX11_least_18 : decode cX11_least 18 = .ok (.sipush (-1001), 3) := by decide +kernel
theorem dX11_least_21 : decode cX11_least 21 = .ok (.ireturn, 1) := by decide +kernel
theorem dX11_bestStart_0 : decode cX11_bestStart 0 = .ok (.aload_n 0, 1) := by decide +kernel
theorem dX11_bestStart_1 : decode cX11_bestStart 1 = .ok (.iload_n 1, 1) := by decide +kernel
theorem dX11_bestStart_2 : decode cX11_bestStart 2 = .ok (.invokevirtual 127, 3) := by decide +kernel
theorem dX11_bestStart_5 : decode cX11_bestStart 5 = .ok (.ifCond .ne 6, 3) := by decide +kernel
theorem dX11_bestStart_8 : decode cX11_bestStart 8 = .ok (.bipush (-101), 2) := by decide +kernel
theorem dX11_bestStart_10 : decode cX11_bestStart 10 = .ok (.ireturn, 1) := by decide +kernel
theorem dX11_bestStart_11 : decode cX11_bestStart 11 = .ok (.aload_n 0, 1) := by decide +kernel
theorem dX11_bestStart_12 : decode cX11_bestStart 12 = .ok (.getfield 134, 3) := by decide +kernel
theorem dX11_bestStart_15 : decode cX11_bestStart 15 = .ok (.ifCond .ne 6, 3) := by decide +kernel
theorem dX11_bestStart_18 : decode cX11_bestStart 18 = .ok (.bipush (-103), 2) := by decide +kernel
theorem dX11_bestStart_20 : decode cX11_bestStart 20 = .ok (.ireturn, 1) := by decide +kernel
theorem dX11_bestStart_21 : decode cX11_bestStart 21 = .ok (.iconst 0, 1) := by decide +kernel
theorem dX11_bestStart_22 : decode cX11_bestStart 22 = .ok (.istore_n 2, 1) := by decide +kernel
theorem dX11_bestStart_23 : decode cX11_bestStart 23 = .ok (.ldc_w 259, 3) := by decide +kernel
theorem dX11_bestStart_26 : decode cX11_bestStart 26 = .ok (.istore_n 3, 1) := by decide +kernel
theorem dX11_bestStart_27 : decode cX11_bestStart 27 = .ok (.iconst 0, 1) := by decide +kernel
theorem dX11_bestStart_28 : decode cX11_bestStart 28 = .ok (.istore 4, 2) := by decide +kernel
theorem dX11_bestStart_30 : decode cX11_bestStart 30 = .ok (.iload 4, 2) := by decide +kernel
theorem dX11_bestStart_32 : decode cX11_bestStart 32 = .ok (.aload_n 0, 1) := by decide +kernel
theorem dX11_bestStart_33 : decode cX11_bestStart 33 = .ok (.getfield 134, 3) := by decide +kernel
theorem dX11_bestStart_36 : decode cX11_bestStart 36 = .ok (.if_icmp .ge 44, 3) := by decide +kernel
theorem dX11_bestStart_39 : decode cX11_bestStart 39 = .ok (.aload_n 0, 1) := by decide +kernel
theorem dX11_bestStart_40 : decode cX11_bestStart 40 = .ok (.iload_n 1, 1) := by decide +kernel
theorem dX11_bestStart_41 : decode cX11_bestStart 41 = .ok (.iload 4, 2) := by decide +kernel
theorem dX11_bestStart_43 : decode cX11_bestStart 43 = .ok (.invokevirtual 256, 3) := by decide +kernel
theorem dX11_bestStart_46 : decode cX11_bestStart 46 = .ok (.istore 5, 2) := by decide +kernel
theorem dX11_bestStart_48 : decode cX11_bestStart 48 = .ok (.iload 5, 2) := by decide +kernel
theorem dX11_bestStart_50 : decode cX11_bestStart 50 = .ok (.iload_n 3, 1) := by decide +kernel
theorem dX11_bestStart_51 : decode cX11_bestStart 51 = .ok (.if_icmp .le 8, 3) := by decide +kernel
theorem dX11_bestStart_54 : decode cX11_bestStart 54 = .ok (.iload 4, 2) := by decide +kernel
theorem dX11_bestStart_56 : decode cX11_bestStart 56 = .ok (.goto 4, 3) := by decide +kernel
theorem dX11_bestStart_59 : decode cX11_bestStart 59 = .ok (.iload_n 2, 1) := by decide +kernel
theorem dX11_bestStart_60 : decode cX11_bestStart 60 = .ok (.istore_n 2, 1) := by decide +kernel
theorem dX11_bestStart_61 : decode cX11_bestStart 61 = .ok (.iload 5, 2) := by decide +kernel
theorem dX11_bestStart_63 : decode cX11_bestStart 63 = .ok (.iload_n 3, 1) := by decide +kernel
theorem dX11_bestStart_64 : decode cX11_bestStart 64 = .ok (.if_icmp .le 8, 3) := by decide +kernel
theorem dX11_bestStart_67 : decode cX11_bestStart 67 = .ok (.iload 5, 2) := by decide +kernel
theorem dX11_bestStart_69 : decode cX11_bestStart 69 = .ok (.goto 4, 3) := by decide +kernel
theorem dX11_bestStart_72 : decode cX11_bestStart 72 = .ok (.iload_n 3, 1) := by decide +kernel
theorem dX11_bestStart_73 : decode cX11_bestStart 73 = .ok (.istore_n 3, 1) := by decide +kernel
theorem dX11_bestStart_74 : decode cX11_bestStart 74 = .ok (.iinc 4 1, 3) := by decide +kernel
theorem dX11_bestStart_77 : decode cX11_bestStart 77 = .ok (.goto (-47), 3) := by decide +kernel
theorem dX11_bestStart_80 : decode cX11_bestStart 80 = .ok (.iload_n 2, 1) := by decide +kernel
theorem dX11_bestStart_81 : decode cX11_bestStart 81 = .ok (.ireturn, 1) := by decide +kernel
theorem dX11_bestSwap_0 : decode cX11_bestSwap 0 = .ok (.aload_n 0, 1) := by decide +kernel
theorem dX11_bestSwap_1 : decode cX11_bestSwap 1 = .ok (.iload_n 1, 1) := by decide +kernel
theorem dX11_bestSwap_2 : decode cX11_bestSwap 2 = .ok (.iload_n 2, 1) := by decide +kernel
theorem dX11_bestSwap_3 : decode cX11_bestSwap 3 = .ok (.invokevirtual 240, 3) := by decide +kernel
theorem dX11_bestSwap_6 : decode cX11_bestSwap 6 = .ok (.ifCond .ne 6, 3) := by decide +kernel
theorem dX11_bestSwap_9 : decode cX11_bestSwap 9 = .ok (.bipush (-101), 2) := by decide +kernel
theorem dX11_bestSwap_11 : decode cX11_bestSwap 11 = .ok (.ireturn, 1) := by decide +kernel
theorem dX11_bestSwap_12 : decode cX11_bestSwap 12 = .ok (.iconst (-1), 1) := by decide +kernel
theorem dX11_bestSwap_13 : decode cX11_bestSwap 13 = .ok (.istore_n 3, 1) := by decide +kernel
theorem dX11_bestSwap_14 : decode cX11_bestSwap 14 = .ok (.aload_n 0, 1) := by decide +kernel
theorem dX11_bestSwap_15 : decode cX11_bestSwap 15 = .ok (.iload_n 1, 1) := by decide +kernel
theorem dX11_bestSwap_16 : decode cX11_bestSwap 16 = .ok (.iload_n 2, 1) := by decide +kernel
theorem dX11_bestSwap_17 : decode cX11_bestSwap 17 = .ok (.invokevirtual 256, 3) := by decide +kernel
theorem dX11_bestSwap_20 : decode cX11_bestSwap 20 = .ok (.istore 4, 2) := by decide +kernel
theorem dX11_bestSwap_22 : decode cX11_bestSwap 22 = .ok (.iconst 0, 1) := by decide +kernel
theorem dX11_bestSwap_23 : decode cX11_bestSwap 23 = .ok (.istore 5, 2) := by decide +kernel
theorem dX11_bestSwap_25 : decode cX11_bestSwap 25 = .ok (.iload 5, 2) := by decide +kernel
theorem dX11_bestSwap_27 : decode cX11_bestSwap 27 = .ok (.aload_n 0, 1) := by decide +kernel
theorem dX11_bestSwap_28 : decode cX11_bestSwap 28 = .ok (.getfield 134, 3) := by decide +kernel
theorem dX11_bestSwap_31 : decode cX11_bestSwap 31 = .ok (.if_icmp .ge 90, 3) := by decide +kernel
theorem dX11_bestSwap_34 : decode cX11_bestSwap 34 = .ok (.iload 5, 2) := by decide +kernel
theorem dX11_bestSwap_36 : decode cX11_bestSwap 36 = .ok (.iconst 1, 1) := by decide +kernel
theorem dX11_bestSwap_37 : decode cX11_bestSwap 37 = .ok (.iadd, 1) := by decide +kernel
theorem dX11_bestSwap_38 : decode cX11_bestSwap 38 = .ok (.istore 6, 2) := by decide +kernel
theorem dX11_bestSwap_40 : decode cX11_bestSwap 40 = .ok (.iload 6, 2) := by decide +kernel
theorem dX11_bestSwap_42 : decode cX11_bestSwap 42 = .ok (.aload_n 0, 1) := by decide +kernel
theorem dX11_bestSwap_43 : decode cX11_bestSwap 43 = .ok (.getfield 134, 3) := by decide +kernel
theorem dX11_bestSwap_46 : decode cX11_bestSwap 46 = .ok (.if_icmp .ge 69, 3) := by decide +kernel
theorem dX11_bestSwap_49 : decode cX11_bestSwap 49 = .ok (.aload_n 0, 1) := by decide +kernel
theorem dX11_bestSwap_50 : decode cX11_bestSwap 50 = .ok (.iload 5, 2) := by decide +kernel
theorem dX11_bestSwap_52 : decode cX11_bestSwap 52 = .ok (.iload 6, 2) := by decide +kernel
theorem dX11_bestSwap_54 : decode cX11_bestSwap 54 = .ok (.invokevirtual 150, 3) := by decide +kernel
theorem dX11_bestSwap_57 : decode cX11_bestSwap 57 = .ok (.aload_n 0, 1) := by decide +kernel
theorem dX11_bestSwap_58 : decode cX11_bestSwap 58 = .ok (.iload_n 1, 1) := by decide +kernel
theorem dX11_bestSwap_59 : decode cX11_bestSwap 59 = .ok (.iload_n 2, 1) := by decide +kernel
theorem dX11_bestSwap_60 : decode cX11_bestSwap 60 = .ok (.invokevirtual 256, 3) := by decide +kernel
theorem dX11_bestSwap_63 : decode cX11_bestSwap 63 = .ok (.istore 7, 2) := by decide +kernel
theorem dX11_bestSwap_65 : decode cX11_bestSwap 65 = .ok (.aload_n 0, 1) := by decide +kernel
theorem dX11_bestSwap_66 : decode cX11_bestSwap 66 = .ok (.iload 5, 2) := by decide +kernel
theorem dX11_bestSwap_68 : decode cX11_bestSwap 68 = .ok (.iload 6, 2) := by decide +kernel
theorem dX11_bestSwap_70 : decode cX11_bestSwap 70 = .ok (.invokevirtual 150, 3) := by decide +kernel
theorem dX11_bestSwap_73 : decode cX11_bestSwap 73 = .ok (.iload 7, 2) := by decide +kernel
theorem dX11_bestSwap_75 : decode cX11_bestSwap 75 = .ok (.iload 4, 2) := by decide +kernel
theorem dX11_bestSwap_77 : decode cX11_bestSwap 77 = .ok (.if_icmp .le 14, 3) := by decide +kernel
theorem dX11_bestSwap_80 : decode cX11_bestSwap 80 = .ok (.bipush 16, 2) := by decide +kernel
theorem dX11_bestSwap_82 : decode cX11_bestSwap 82 = .ok (.iload 5, 2) := by decide +kernel
theorem dX11_bestSwap_84 : decode cX11_bestSwap 84 = .ok (.imul, 1) := by decide +kernel
theorem dX11_bestSwap_85 : decode cX11_bestSwap 85 = .ok (.iload 6, 2) := by decide +kernel
theorem dX11_bestSwap_87 : decode cX11_bestSwap 87 = .ok (.iadd, 1) := by decide +kernel
theorem dX11_bestSwap_88 : decode cX11_bestSwap 88 = .ok (.goto 4, 3) := by decide +kernel
theorem dX11_bestSwap_91 : decode cX11_bestSwap 91 = .ok (.iload_n 3, 1) := by decide +kernel
theorem dX11_bestSwap_92 : decode cX11_bestSwap 92 = .ok (.istore_n 3, 1) := by decide +kernel
theorem dX11_bestSwap_93 : decode cX11_bestSwap 93 = .ok (.iload 7, 2) := by decide +kernel
theorem dX11_bestSwap_95 : decode cX11_bestSwap 95 = .ok (.iload 4, 2) := by decide +kernel
theorem dX11_bestSwap_97 : decode cX11_bestSwap 97 = .ok (.if_icmp .le 8, 3) := by decide +kernel
theorem dX11_bestSwap_100 : decode cX11_bestSwap 100 = .ok (.iload 7, 2) := by decide +kernel
theorem dX11_bestSwap_102 : decode cX11_bestSwap 102 = .ok (.goto 5, 3) := by decide +kernel
theorem dX11_bestSwap_105 : decode cX11_bestSwap 105 = .ok (.iload 4, 2) := by decide +kernel
theorem dX11_bestSwap_107 : decode cX11_bestSwap 107 = .ok (.istore 4, 2) := by decide +kernel
theorem dX11_bestSwap_109 : decode cX11_bestSwap 109 = .ok (.iinc 6 1, 3) := by decide +kernel
theorem dX11_bestSwap_112 : decode cX11_bestSwap 112 = .ok (.goto (-72), 3) := by decide +kernel
theorem dX11_bestSwap_115 : decode cX11_bestSwap 115 = .ok (.iinc 5 1, 3) := by decide +kernel
theorem dX11_bestSwap_118 : decode cX11_bestSwap 118 = .ok (.goto (-93), 3) := by decide +kernel
theorem dX11_bestSwap_121 : decode cX11_bestSwap 121 = .ok (.iload_n 3, 1) := by decide +kernel
theorem dX11_bestSwap_122 : decode cX11_bestSwap 122 = .ok (.ireturn, 1) := by decide +kernel
theorem dX11_bestStir_0 : decode cX11_bestStir 0 = .ok (.aload_n 0, 1) := by decide +kernel
theorem dX11_bestStir_1 : decode cX11_bestStir 1 = .ok (.iload_n 1, 1) := by decide +kernel
theorem dX11_bestStir_2 : decode cX11_bestStir 2 = .ok (.iload_n 2, 1) := by decide +kernel
theorem dX11_bestStir_3 : decode cX11_bestStir 3 = .ok (.invokevirtual 240, 3) := by decide +kernel
theorem dX11_bestStir_6 : decode cX11_bestStir 6 = .ok (.ifCond .ne 6, 3) := by decide +kernel
theorem dX11_bestStir_9 : decode cX11_bestStir 9 = .ok (.bipush (-101), 2) := by decide +kernel
theorem dX11_bestStir_11 : decode cX11_bestStir 11 = .ok (.ireturn, 1) := by decide +kernel
theorem dX11_bestStir_12 : decode cX11_bestStir 12 = .ok (.iconst 0, 1) := by decide +kernel
theorem dX11_bestStir_13 : decode cX11_bestStir 13 = .ok (.istore_n 3, 1) := by decide +kernel
theorem dX11_bestStir_14 : decode cX11_bestStir 14 = .ok (.ldc_w 259, 3) := by decide +kernel
theorem dX11_bestStir_17 : decode cX11_bestStir 17 = .ok (.istore 4, 2) := by decide +kernel
theorem dX11_bestStir_19 : decode cX11_bestStir 19 = .ok (.iconst 0, 1) := by decide +kernel
theorem dX11_bestStir_20 : decode cX11_bestStir 20 = .ok (.istore 5, 2) := by decide +kernel
theorem dX11_bestStir_22 : decode cX11_bestStir 22 = .ok (.iload 5, 2) := by decide +kernel
theorem dX11_bestStir_24 : decode cX11_bestStir 24 = .ok (.bipush 10, 2) := by decide +kernel
theorem dX11_bestStir_26 : decode cX11_bestStir 26 = .ok (.if_icmp .ge 67, 3) := by decide +kernel
theorem dX11_bestStir_29 : decode cX11_bestStir 29 = .ok (.aload_n 0, 1) := by decide +kernel
theorem dX11_bestStir_30 : decode cX11_bestStir 30 = .ok (.iload_n 1, 1) := by decide +kernel
theorem dX11_bestStir_31 : decode cX11_bestStir 31 = .ok (.invokevirtual 230, 3) := by decide +kernel
theorem dX11_bestStir_34 : decode cX11_bestStir 34 = .ok (.aload_n 0, 1) := by decide +kernel
theorem dX11_bestStir_35 : decode cX11_bestStir 35 = .ok (.invokevirtual 233, 3) := by decide +kernel
theorem dX11_bestStir_38 : decode cX11_bestStir 38 = .ok (.aload_n 0, 1) := by decide +kernel
theorem dX11_bestStir_39 : decode cX11_bestStir 39 = .ok (.iload 5, 2) := by decide +kernel
theorem dX11_bestStir_41 : decode cX11_bestStir 41 = .ok (.putfield 160, 3) := by decide +kernel
theorem dX11_bestStir_44 : decode cX11_bestStir 44 = .ok (.aload_n 0, 1) := by decide +kernel
theorem dX11_bestStir_45 : decode cX11_bestStir 45 = .ok (.iload_n 2, 1) := by decide +kernel
theorem dX11_bestStir_46 : decode cX11_bestStir 46 = .ok (.ldc 236, 2) := by decide +kernel
theorem dX11_bestStir_48 : decode cX11_bestStir 48 = .ok (.invokevirtual 237, 3) := by decide +kernel
theorem dX11_bestStir_51 : decode cX11_bestStir 51 = .ok (.aload_n 0, 1) := by decide +kernel
theorem dX11_bestStir_52 : decode cX11_bestStir 52 = .ok (.invokevirtual 253, 3) := by decide +kernel
theorem dX11_bestStir_55 : decode cX11_bestStir 55 = .ok (.iload 4, 2) := by decide +kernel
theorem dX11_bestStir_57 : decode cX11_bestStir 57 = .ok (.if_icmp .le 8, 3) := by decide +kernel
theorem dX11_bestStir_60 : decode cX11_bestStir 60 = .ok (.iload 5, 2) := by decide +kernel
theorem dX11_bestStir_62 : decode cX11_bestStir 62 = .ok (.goto 4, 3) := by decide +kernel
theorem dX11_bestStir_65 : decode cX11_bestStir 65 = .ok (.iload_n 3, 1) := by decide +kernel
theorem dX11_bestStir_66 : decode cX11_bestStir 66 = .ok (.istore_n 3, 1) := by decide +kernel
theorem dX11_bestStir_67 : decode cX11_bestStir 67 = .ok (.aload_n 0, 1) := by decide +kernel
theorem dX11_bestStir_68 : decode cX11_bestStir 68 = .ok (.invokevirtual 253, 3) := by decide +kernel
theorem dX11_bestStir_71 : decode cX11_bestStir 71 = .ok (.iload 4, 2) := by decide +kernel
theorem dX11_bestStir_73 : decode cX11_bestStir 73 = .ok (.if_icmp .le 10, 3) := by decide +kernel
theorem dX11_bestStir_76 : decode cX11_bestStir 76 = .ok (.aload_n 0, 1) := by decide +kernel
theorem dX11_bestStir_77 : decode cX11_bestStir 77 = .ok (.invokevirtual 253, 3) := by decide +kernel
theorem dX11_bestStir_80 : decode cX11_bestStir 80 = .ok (.goto 5, 3) := by decide +kernel
theorem dX11_bestStir_83 : decode cX11_bestStir 83 = .ok (.iload 4, 2) := by decide +kernel
theorem dX11_bestStir_85 : decode cX11_bestStir 85 = .ok (.istore 4, 2) := by decide +kernel
theorem dX11_bestStir_87 : decode cX11_bestStir 87 = .ok (.iinc 5 1, 3) := by decide +kernel
theorem dX11_bestStir_90 : decode cX11_bestStir 90 = .ok (.goto (-68), 3) := by decide +kernel
theorem dX11_bestStir_93 : decode cX11_bestStir 93 = .ok (.iload_n 3, 1) := by decide +kernel
theorem dX11_bestStir_94 : decode cX11_bestStir 94 = .ok (.ireturn, 1) := by decide +kernel
theorem dX11_digestDay_0 : decode cX11_digestDay 0 = .ok (.iconst 0, 1) := by decide +kernel
theorem dX11_digestDay_1 : decode cX11_digestDay 1 = .ok (.istore_n 1, 1) := by decide +kernel
theorem dX11_digestDay_2 : decode cX11_digestDay 2 = .ok (.iconst 0, 1) := by decide +kernel
theorem dX11_digestDay_3 : decode cX11_digestDay 3 = .ok (.istore_n 2, 1) := by decide +kernel
theorem dX11_digestDay_4 : decode cX11_digestDay 4 = .ok (.iload_n 2, 1) := by decide +kernel
theorem dX11_digestDay_5 : decode cX11_digestDay 5 = .ok (.aload_n 0, 1) := by decide +kernel
theorem dX11_digestDay_6 : decode cX11_digestDay 6 = .ok (.getfield 134, 3) := by decide +kernel
theorem dX11_digestDay_9 : decode cX11_digestDay 9 = .ok (.if_icmp .ge 102, 3) := by decide +kernel
theorem dX11_digestDay_12 : decode cX11_digestDay 12 = .ok (.aload_n 0, 1) := by decide +kernel
theorem dX11_digestDay_13 : decode cX11_digestDay 13 = .ok (.getfield 67, 3) := by decide +kernel
theorem dX11_digestDay_16 : decode cX11_digestDay 16 = .ok (.iload_n 2, 1) := by decide +kernel
theorem dX11_digestDay_17 : decode cX11_digestDay 17 = .ok (.iaload, 1) := by decide +kernel
theorem dX11_digestDay_18 : decode cX11_digestDay 18 = .ok (.ifCond .lt 87, 3) := by decide +kernel
theorem dX11_digestDay_21 : decode cX11_digestDay 21 = .ok (.aload_n 0, 1) := by decide +kernel
theorem dX11_digestDay_22 : decode cX11_digestDay 22 = .ok (.getfield 67, 3) := by decide +kernel
theorem dX11_digestDay_25 : decode cX11_digestDay 25 = .ok (.iload_n 2, 1) := by decide +kernel
theorem dX11_digestDay_26 : decode cX11_digestDay 26 = .ok (.iaload, 1) := by decide +kernel
theorem dX11_digestDay_27 : decode cX11_digestDay 27 = .ok (.aload_n 0, 1) := by decide +kernel
theorem dX11_digestDay_28 : decode cX11_digestDay 28 = .ok (.getfield 73, 3) := by decide +kernel
theorem dX11_digestDay_31 : decode cX11_digestDay 31 = .ok (.iload_n 2, 1) := by decide +kernel
theorem dX11_digestDay_32 : decode cX11_digestDay 32 = .ok (.iaload, 1) := by decide +kernel
theorem dX11_digestDay_33 : decode cX11_digestDay 33 = .ok (.iadd, 1) := by decide +kernel
theorem dX11_digestDay_34 : decode cX11_digestDay 34 = .ok (.bipush 99, 2) := by decide +kernel
theorem dX11_digestDay_36 : decode cX11_digestDay 36 = .ok (.if_icmp .le 8, 3) := by decide +kernel
theorem dX11_digestDay_39 : decode cX11_digestDay 39 = .ok (.bipush 99, 2) := by decide +kernel
theorem dX11_digestDay_41 : decode cX11_digestDay 41 = .ok (.goto 16, 3) := by decide +kernel
theorem dX11_digestDay_44 : decode cX11_digestDay 44 = .ok (.aload_n 0, 1) := by decide +kernel
theorem dX11_digestDay_45 : decode cX11_digestDay 45 = .ok (.getfield 67, 3) := by decide +kernel
theorem dX11_digestDay_48 : decode cX11_digestDay 48 = .ok (.iload_n 2, 1) := by decide +kernel
theorem dX11_digestDay_49 : decode cX11_digestDay 49 = .ok (.iaload, 1) := by decide +kernel
theorem dX11_digestDay_50 : decode cX11_digestDay 50 = .ok (.aload_n 0, 1) := by decide +kernel
theorem dX11_digestDay_51 : decode cX11_digestDay 51 = .ok (.getfield 73, 3) := by decide +kernel
theorem dX11_digestDay_54 : decode cX11_digestDay 54 = .ok (.iload_n 2, 1) := by decide +kernel
theorem dX11_digestDay_55 : decode cX11_digestDay 55 = .ok (.iaload, 1) := by decide +kernel
theorem dX11_digestDay_56 : decode cX11_digestDay 56 = .ok (.iadd, 1) := by decide +kernel
theorem dX11_digestDay_57 : decode cX11_digestDay 57 = .ok (.istore_n 3, 1) := by decide +kernel
theorem dX11_digestDay_58 : decode cX11_digestDay 58 = .ok (.aload_n 0, 1) := by decide +kernel
theorem dX11_digestDay_59 : decode cX11_digestDay 59 = .ok (.getfield 67, 3) := by decide +kernel
theorem dX11_digestDay_62 : decode cX11_digestDay 62 = .ok (.iload_n 2, 1) := by decide +kernel
theorem dX11_digestDay_63 : decode cX11_digestDay 63 = .ok (.iload_n 3, 1) := by decide +kernel
theorem dX11_digestDay_64 : decode cX11_digestDay 64 = .ok (.aload_n 0, 1) := by decide +kernel
theorem dX11_digestDay_65 : decode cX11_digestDay 65 = .ok (.getfield 16, 3) := by decide +kernel
theorem dX11_digestDay_68 : decode cX11_digestDay 68 = .ok (.iload_n 2, 1) := by decide +kernel
theorem dX11_digestDay_69 : decode cX11_digestDay 69 = .ok (.iaload, 1) := by decide +kernel
theorem dX11_digestDay_70 : decode cX11_digestDay 70 = .ok (.if_icmp .ge 7, 3) := by decide +kernel
theorem dX11_digestDay_73 : decode cX11_digestDay 73 = .ok (.iconst (-1), 1) := by decide +kernel
theorem dX11_digestDay_74 : decode cX11_digestDay 74 = .ok (.goto 11, 3) := by decide +kernel
theorem dX11_digestDay_77 : decode cX11_digestDay 77 = .ok (.iload_n 3, 1) := by decide +kernel
theorem dX11_digestDay_78 : decode cX11_digestDay 78 = .ok (.aload_n 0, 1) := by decide +kernel
theorem dX11_digestDay_79 : decode cX11_digestDay 79 = .ok (.getfield 16, 3) := by decide +kernel
theorem dX11_digestDay_82 : decode cX11_digestDay 82 = .ok (.iload_n 2, 1) := by decide +kernel
theorem dX11_digestDay_83 : decode cX11_digestDay 83 = .ok (.iaload, 1) := by decide +kernel
theorem dX11_digestDay_84 : decode cX11_digestDay 84 = .ok (.isub, 1) := by decide +kernel
theorem dX11_digestDay_85 : decode cX11_digestDay 85 = .ok (.iastore, 1) := by decide +kernel
theorem dX11_digestDay_86 : decode cX11_digestDay 86 = .ok (.iload_n 1, 1) := by decide +kernel
theorem dX11_digestDay_87 : decode cX11_digestDay 87 = .ok (.aload_n 0, 1) := by decide +kernel
theorem dX11_digestDay_88 : decode cX11_digestDay 88 = .ok (.getfield 67, 3) := by decide +kernel
theorem dX11_digestDay_91 : decode cX11_digestDay 91 = .ok (.iload_n 2, 1) := by decide +kernel
theorem dX11_digestDay_92 : decode cX11_digestDay 92 = .ok (.iaload, 1) := by decide +kernel
theorem dX11_digestDay_93 : decode cX11_digestDay 93 = .ok (.ifCond .ge 9, 3) := by decide +kernel
theorem dX11_digestDay_96 : decode cX11_digestDay 96 = .ok (.iconst 1, 1) := by decide +kernel
theorem dX11_digestDay_97 : decode cX11_digestDay 97 = .ok (.iload_n 2, 1) := by decide +kernel
theorem dX11_digestDay_98 : decode cX11_digestDay 98 = .ok (.ishl, 1) := by decide +kernel
theorem dX11_digestDay_99 : decode cX11_digestDay 99 = .ok (.goto 4, 3) := by decide +kernel
theorem dX11_digestDay_102 : decode cX11_digestDay 102 = .ok (.iconst 0, 1) := by decide +kernel
theorem dX11_digestDay_103 : decode cX11_digestDay 103 = .ok (.ior, 1) := by decide +kernel
theorem dX11_digestDay_104 : decode cX11_digestDay 104 = .ok (.istore_n 1, 1) := by decide +kernel
theorem dX11_digestDay_105 : decode cX11_digestDay 105 = .ok (.iinc 2 1, 3) := by decide +kernel
theorem dX11_digestDay_108 : decode cX11_digestDay 108 = .ok (.goto (-104), 3) := by decide +kernel
theorem dX11_digestDay_111 : decode cX11_digestDay 111 = .ok (.iload_n 1, 1) := by decide +kernel
theorem dX11_digestDay_112 : decode cX11_digestDay 112 = .ok (.ireturn, 1) := by decide +kernel
theorem dX11_live_0 : decode cX11_live 0 = .ok (.aload_n 0, 1) := by decide +kernel
theorem dX11_live_1 : decode cX11_live 1 = .ok (.iload_n 1, 1) := by decide +kernel
theorem dX11_live_2 : decode cX11_live 2 = .ok (.iload_n 2, 1) := by decide +kernel
theorem dX11_live_3 : decode cX11_live 3 = .ok (.invokevirtual 240, 3) := by decide +kernel
theorem dX11_live_6 : decode cX11_live 6 = .ok (.ifCond .ne 6, 3) := by decide +kernel
theorem dX11_live_9 : decode cX11_live 9 = .ok (.bipush (-101), 2) := by decide +kernel
theorem dX11_live_11 : decode cX11_live 11 = .ok (.ireturn, 1) := by decide +kernel
theorem dX11_live_12 : decode cX11_live 12 = .ok (.aload_n 0, 1) := by decide +kernel
theorem dX11_live_13 : decode cX11_live 13 = .ok (.iload_n 3, 1) := by decide +kernel
theorem dX11_live_14 : decode cX11_live 14 = .ok (.invokevirtual 243, 3) := by decide +kernel
theorem dX11_live_17 : decode cX11_live 17 = .ok (.ifCond .ne 6, 3) := by decide +kernel
theorem dX11_live_20 : decode cX11_live 20 = .ok (.bipush (-102), 2) := by decide +kernel
theorem dX11_live_22 : decode cX11_live 22 = .ok (.ireturn, 1) := by decide +kernel
theorem dX11_live_23 : decode cX11_live 23 = .ok (.aload_n 0, 1) := by decide +kernel
theorem dX11_live_24 : decode cX11_live 24 = .ok (.iload_n 1, 1) := by decide +kernel
theorem dX11_live_25 : decode cX11_live 25 = .ok (.iload_n 2, 1) := by decide +kernel
theorem dX11_live_26 : decode cX11_live 26 = .ok (.iload_n 3, 1) := by decide +kernel
theorem dX11_live_27 : decode cX11_live 27 = .ok (.invokevirtual 246, 3) := by decide +kernel
theorem dX11_live_30 : decode cX11_live 30 = .ok (.aload_n 0, 1) := by decide +kernel
theorem dX11_live_31 : decode cX11_live 31 = .ok (.invokevirtual 260, 3) := by decide +kernel
theorem dX11_live_34 : decode cX11_live 34 = .ok (.istore 4, 2) := by decide +kernel
theorem dX11_live_36 : decode cX11_live 36 = .ok (.iconst 0, 1) := by decide +kernel
theorem dX11_live_37 : decode cX11_live 37 = .ok (.istore 5, 2) := by decide +kernel
theorem dX11_live_39 : decode cX11_live 39 = .ok (.iload 5, 2) := by decide +kernel
theorem dX11_live_41 : decode cX11_live 41 = .ok (.bipush 10, 2) := by decide +kernel
theorem dX11_live_43 : decode cX11_live 43 = .ok (.if_icmp .ge 23, 3) := by decide +kernel
theorem dX11_live_46 : decode cX11_live 46 = .ok (.aload_n 0, 1) := by decide +kernel
theorem dX11_live_47 : decode cX11_live 47 = .ok (.getfield 25, 3) := by decide +kernel
theorem dX11_live_50 : decode cX11_live 50 = .ok (.iload 5, 2) := by decide +kernel
theorem dX11_live_52 : decode cX11_live 52 = .ok (.aload_n 0, 1) := by decide +kernel
theorem dX11_live_53 : decode cX11_live 53 = .ok (.getfield 67, 3) := by decide +kernel
theorem dX11_live_56 : decode cX11_live 56 = .ok (.iload 5, 2) := by decide +kernel
theorem dX11_live_58 : decode cX11_live 58 = .ok (.iaload, 1) := by decide +kernel
theorem dX11_live_59 : decode cX11_live 59 = .ok (.iastore, 1) := by decide +kernel
theorem dX11_live_60 : decode cX11_live 60 = .ok (.iinc 5 1, 3) := by decide +kernel
theorem dX11_live_63 : decode cX11_live 63 = .ok (.goto (-24), 3) := by decide +kernel
theorem dX11_live_66 : decode cX11_live 66 = .ok (.iload 4, 2) := by decide +kernel
theorem dX11_live_68 : decode cX11_live 68 = .ok (.ireturn, 1) := by decide +kernel
theorem dX11_starves_0 : decode cX11_starves 0 = .ok (.aload_n 0, 1) := by decide +kernel
theorem dX11_starves_1 : decode cX11_starves 1 = .ok (.iload_n 1, 1) := by decide +kernel
theorem dX11_starves_2 : decode cX11_starves 2 = .ok (.iload_n 2, 1) := by decide +kernel
theorem dX11_starves_3 : decode cX11_starves 3 = .ok (.invokevirtual 240, 3) := by decide +kernel
theorem dX11_starves_6 : decode cX11_starves 6 = .ok (.ifCond .eq 11, 3) := by decide +kernel
theorem dX11_starves_9 : decode cX11_starves 9 = .ok (.aload_n 0, 1) := by decide +kernel
theorem dX11_starves_10 : decode cX11_starves 10 = .ok (.iload_n 3, 1) := by decide +kernel
theorem dX11_starves_11 : decode cX11_starves 11 = .ok (.invokevirtual 141, 3) := by decide +kernel
theorem dX11_starves_14 : decode cX11_starves 14 = .ok (.ifCond .ne 6, 3) := by decide +kernel
theorem dX11_starves_17 : decode cX11_starves 17 = .ok (.bipush (-101), 2) := by decide +kernel
theorem dX11_starves_19 : decode cX11_starves 19 = .ok (.ireturn, 1) := by decide +kernel
theorem dX11_starves_20 : decode cX11_starves 20 = .ok (.aload_n 0, 1) := by decide +kernel
theorem dX11_starves_21 : decode cX11_starves 21 = .ok (.getfield 25, 3) := by decide +kernel
theorem dX11_starves_24 : decode cX11_starves 24 = .ok (.iload_n 3, 1) := by decide +kernel
theorem dX11_starves_25 : decode cX11_starves 25 = .ok (.iaload, 1) := by decide +kernel
theorem dX11_starves_26 : decode cX11_starves 26 = .ok (.ifCond .ge 5, 3) := by decide +kernel
theorem dX11_starves_29 : decode cX11_starves 29 = .ok (.iconst 0, 1) := by decide +kernel
theorem dX11_starves_30 : decode cX11_starves 30 = .ok (.ireturn, 1) := by decide +kernel
theorem dX11_starves_31 : decode cX11_starves 31 = .ok (.aload_n 0, 1) := by decide +kernel
theorem dX11_starves_32 : decode cX11_starves 32 = .ok (.iload_n 1, 1) := by decide +kernel
theorem dX11_starves_33 : decode cX11_starves 33 = .ok (.invokevirtual 230, 3) := by decide +kernel
theorem dX11_starves_36 : decode cX11_starves 36 = .ok (.aload_n 0, 1) := by decide +kernel
theorem dX11_starves_37 : decode cX11_starves 37 = .ok (.invokevirtual 233, 3) := by decide +kernel
theorem dX11_starves_40 : decode cX11_starves 40 = .ok (.iload_n 2, 1) := by decide +kernel
theorem dX11_starves_41 : decode cX11_starves 41 = .ok (.istore 4, 2) := by decide +kernel
theorem dX11_starves_43 : decode cX11_starves 43 = .ok (.iconst 1, 1) := by decide +kernel
theorem dX11_starves_44 : decode cX11_starves 44 = .ok (.istore 5, 2) := by decide +kernel
theorem dX11_starves_46 : decode cX11_starves 46 = .ok (.iload 5, 2) := by decide +kernel
theorem dX11_starves_48 : decode cX11_starves 48 = .ok (.bipush 60, 2) := by decide +kernel
theorem dX11_starves_50 : decode cX11_starves 50 = .ok (.if_icmp .gt 43, 3) := by decide +kernel
theorem dX11_starves_53 : decode cX11_starves 53 = .ok (.aload_n 0, 1) := by decide +kernel
theorem dX11_starves_54 : decode cX11_starves 54 = .ok (.iload 4, 2) := by decide +kernel
theorem dX11_starves_56 : decode cX11_starves 56 = .ok (.ldc 236, 2) := by decide +kernel
theorem dX11_starves_58 : decode cX11_starves 58 = .ok (.invokevirtual 237, 3) := by decide +kernel
theorem dX11_starves_61 : decode cX11_starves 61 = .ok (.aload_n 0, 1) := by decide +kernel
theorem dX11_starves_62 : decode cX11_starves 62 = .ok (.invokevirtual 260, 3) := by decide +kernel
theorem dX11_starves_65 : decode cX11_starves 65 = .ok (.iload_n 3, 1) := by decide +kernel
theorem dX11_starves_66 : decode cX11_starves 66 = .ok (.invokestatic 190, 3) := by decide +kernel
theorem dX11_starves_69 : decode cX11_starves 69 = .ok (.ifCond .eq 6, 3) := by decide +kernel
theorem dX11_starves_72 : decode cX11_starves 72 = .ok (.iload 5, 2) := by decide +kernel
theorem dX11_starves_74 : decode cX11_starves 74 = .ok (.ireturn, 1) := by decide +kernel
theorem dX11_starves_75 : decode cX11_starves 75 = .ok (.aload_n 0, 1) := by decide +kernel
theorem dX11_starves_76 : decode cX11_starves 76 = .ok (.iload 4, 2) := by decide +kernel
theorem dX11_starves_78 : decode cX11_starves 78 = .ok (.aload_n 0, 1) := by decide +kernel
theorem dX11_starves_79 : decode cX11_starves 79 = .ok (.getfield 157, 3) := by decide +kernel
theorem dX11_starves_82 : decode cX11_starves 82 = .ok (.invokevirtual 226, 3) := by decide +kernel
theorem dX11_starves_85 : decode cX11_starves 85 = .ok (.istore 4, 2) := by decide +kernel
theorem dX11_starves_87 : decode cX11_starves 87 = .ok (.iinc 5 1, 3) := by decide +kernel
theorem dX11_starves_90 : decode cX11_starves 90 = .ok (.goto (-44), 3) := by decide +kernel
theorem dX11_starves_93 : decode cX11_starves 93 = .ok (.iconst (-1), 1) := by decide +kernel
theorem dX11_starves_94 : decode cX11_starves 94 = .ok (.ireturn, 1) := by decide +kernel
theorem dX11_sittersFrom_0 : decode cX11_sittersFrom 0 = .ok (.iconst 0, 1) := by decide +kernel
theorem dX11_sittersFrom_1 : decode cX11_sittersFrom 1 = .ok (.istore_n 3, 1) := by decide +kernel
theorem dX11_sittersFrom_2 : decode cX11_sittersFrom 2 = .ok (.iconst 0, 1) := by decide +kernel
theorem dX11_sittersFrom_3 : decode cX11_sittersFrom 3 = .ok (.istore 4, 2) := by decide +kernel
theorem dX11_sittersFrom_5 : decode cX11_sittersFrom 5 = .ok (.iload 4, 2) := by decide +kernel
theorem dX11_sittersFrom_7 : decode cX11_sittersFrom 7 = .ok (.iload_n 2, 1) := by decide +kernel
theorem dX11_sittersFrom_8 : decode cX11_sittersFrom 8 = .ok (.if_icmp .ge 28, 3) := by decide +kernel
theorem dX11_sittersFrom_11 : decode cX11_sittersFrom 11 = .ok (.iload_n 3, 1) := by decide +kernel
theorem dX11_sittersFrom_12 : decode cX11_sittersFrom 12 = .ok (.iconst 1, 1) := by decide +kernel
theorem dX11_sittersFrom_13 : decode cX11_sittersFrom 13 = .ok (.aload_n 0, 1) := by decide +kernel
theorem dX11_sittersFrom_14 : decode cX11_sittersFrom 14 = .ok (.getfield 31, 3) := by decide +kernel
theorem dX11_sittersFrom_17 : decode cX11_sittersFrom 17 = .ok (.iload_n 1, 1) := by decide +kernel
theorem dX11_sittersFrom_18 : decode cX11_sittersFrom 18 = .ok (.iload 4, 2) := by decide +kernel
theorem dX11_sittersFrom_20 : decode cX11_sittersFrom 20 = .ok (.iadd, 1) := by decide +kernel
theorem dX11_sittersFrom_21 : decode cX11_sittersFrom 21 = .ok (.aload_n 0, 1) := by decide +kernel
theorem dX11_sittersFrom_22 : decode cX11_sittersFrom 22 = .ok (.getfield 134, 3) := by decide +kernel
theorem dX11_sittersFrom_25 : decode cX11_sittersFrom 25 = .ok (.irem, 1) := by decide +kernel
theorem dX11_sittersFrom_26 : decode cX11_sittersFrom 26 = .ok (.iaload, 1) := by decide +kernel
theorem dX11_sittersFrom_27 : decode cX11_sittersFrom 27 = .ok (.ishl, 1) := by decide +kernel
theorem dX11_sittersFrom_28 : decode cX11_sittersFrom 28 = .ok (.ior, 1) := by decide +kernel
theorem dX11_sittersFrom_29 : decode cX11_sittersFrom 29 = .ok (.istore_n 3, 1) := by decide +kernel
theorem dX11_sittersFrom_30 : decode cX11_sittersFrom 30 = .ok (.iinc 4 1, 3) := by decide +kernel
theorem dX11_sittersFrom_33 : decode cX11_sittersFrom 33 = .ok (.goto (-28), 3) := by decide +kernel
theorem dX11_sittersFrom_36 : decode cX11_sittersFrom 36 = .ok (.iload_n 3, 1) := by decide +kernel
theorem dX11_sittersFrom_37 : decode cX11_sittersFrom 37 = .ok (.ireturn, 1) := by decide +kernel
theorem dX11_areFed_0 : decode cX11_areFed 0 = .ok (.aload_n 0, 1) := by decide +kernel
theorem dX11_areFed_1 : decode cX11_areFed 1 = .ok (.iload_n 1, 1) := by decide +kernel
theorem dX11_areFed_2 : decode cX11_areFed 2 = .ok (.invokevirtual 230, 3) := by decide +kernel
theorem dX11_areFed_5 : decode cX11_areFed 5 = .ok (.aload_n 0, 1) := by decide +kernel
theorem dX11_areFed_6 : decode cX11_areFed 6 = .ok (.invokevirtual 233, 3) := by decide +kernel
theorem dX11_areFed_9 : decode cX11_areFed 9 = .ok (.iload_n 2, 1) := by decide +kernel
theorem dX11_areFed_10 : decode cX11_areFed 10 = .ok (.istore 5, 2) := by decide +kernel
theorem dX11_areFed_12 : decode cX11_areFed 12 = .ok (.iconst 1, 1) := by decide +kernel
theorem dX11_areFed_13 : decode cX11_areFed 13 = .ok (.istore 6, 2) := by decide +kernel
theorem dX11_areFed_15 : decode cX11_areFed 15 = .ok (.iconst 0, 1) := by decide +kernel
theorem dX11_areFed_16 : decode cX11_areFed 16 = .ok (.istore 7, 2) := by decide +kernel
theorem dX11_areFed_18 : decode cX11_areFed 18 = .ok (.iload 7, 2) := by decide +kernel
theorem dX11_areFed_20 : decode cX11_areFed 20 = .ok (.iload_n 3, 1) := by decide +kernel
theorem dX11_areFed_21 : decode cX11_areFed 21 = .ok (.if_icmp .ge 63, 3) := by decide +kernel
theorem dX11_areFed_24 : decode cX11_areFed 24 = .ok (.iload 6, 2) := by decide +kernel
theorem dX11_areFed_26 : decode cX11_areFed 26 = .ok (.ifCond .eq 58, 3) := by decide +kernel
theorem dX11_areFed_29 : decode cX11_areFed 29 = .ok (.aload_n 0, 1) := by decide +kernel
theorem dX11_areFed_30 : decode cX11_areFed 30 = .ok (.aload_n 0, 1) := by decide +kernel
theorem dX11_areFed_31 : decode cX11_areFed 31 = .ok (.iload 7, 2) := by decide +kernel
theorem dX11_areFed_33 : decode cX11_areFed 33 = .ok (.iload 4, 2) := by decide +kernel
theorem dX11_areFed_35 : decode cX11_areFed 35 = .ok (.imul, 1) := by decide +kernel
theorem dX11_areFed_36 : decode cX11_areFed 36 = .ok (.iload 4, 2) := by decide +kernel
theorem dX11_areFed_38 : decode cX11_areFed 38 = .ok (.invokevirtual 263, 3) := by decide +kernel
theorem dX11_areFed_41 : decode cX11_areFed 41 = .ok (.putfield 169, 3) := by decide +kernel
theorem dX11_areFed_44 : decode cX11_areFed 44 = .ok (.aload_n 0, 1) := by decide +kernel
theorem dX11_areFed_45 : decode cX11_areFed 45 = .ok (.iload 5, 2) := by decide +kernel
theorem dX11_areFed_47 : decode cX11_areFed 47 = .ok (.ldc 236, 2) := by decide +kernel
theorem dX11_areFed_49 : decode cX11_areFed 49 = .ok (.invokevirtual 237, 3) := by decide +kernel
theorem dX11_areFed_52 : decode cX11_areFed 52 = .ok (.aload_n 0, 1) := by decide +kernel
theorem dX11_areFed_53 : decode cX11_areFed 53 = .ok (.invokevirtual 260, 3) := by decide +kernel
theorem dX11_areFed_56 : decode cX11_areFed 56 = .ok (.ifCond .ne 7, 3) := by decide +kernel
theorem dX11_areFed_59 : decode cX11_areFed 59 = .ok (.iconst 1, 1) := by decide +kernel
theorem dX11_areFed_60 : decode cX11_areFed 60 = .ok (.goto 4, 3) := by decide +kernel
theorem dX11_areFed_63 : decode cX11_areFed 63 = .ok (.iconst 0, 1) := by decide +kernel
theorem dX11_areFed_64 : decode cX11_areFed 64 = .ok (.istore 6, 2) := by decide +kernel
theorem dX11_areFed_66 : decode cX11_areFed 66 = .ok (.aload_n 0, 1) := by decide +kernel
theorem dX11_areFed_67 : decode cX11_areFed 67 = .ok (.iload 5, 2) := by decide +kernel
theorem dX11_areFed_69 : decode cX11_areFed 69 = .ok (.aload_n 0, 1) := by decide +kernel
theorem dX11_areFed_70 : decode cX11_areFed 70 = .ok (.getfield 157, 3) := by decide +kernel
theorem dX11_areFed_73 : decode cX11_areFed 73 = .ok (.invokevirtual 226, 3) := by decide +kernel
theorem dX11_areFed_76 : decode cX11_areFed 76 = .ok (.istore 5, 2) := by decide +kernel
theorem dX11_areFed_78 : decode cX11_areFed 78 = .ok (.iinc 7 1, 3) := by decide +kernel
theorem dX11_areFed_81 : decode cX11_areFed 81 = .ok (.goto (-63), 3) := by decide +kernel
theorem dX11_areFed_84 : decode cX11_areFed 84 = .ok (.iload 6, 2) := by decide +kernel
theorem dX11_areFed_86 : decode cX11_areFed 86 = .ok (.ireturn, 1) := by decide +kernel
theorem dX11_fasting_0 : decode cX11_fasting 0 = .ok (.aload_n 0, 1) := by decide +kernel
theorem dX11_fasting_1 : decode cX11_fasting 1 = .ok (.iload_n 1, 1) := by decide +kernel
theorem dX11_fasting_2 : decode cX11_fasting 2 = .ok (.iload_n 2, 1) := by decide +kernel
theorem dX11_fasting_3 : decode cX11_fasting 3 = .ok (.invokevirtual 240, 3) := by decide +kernel
theorem dX11_fasting_6 : decode cX11_fasting 6 = .ok (.ifCond .ne 6, 3) := by decide +kernel
theorem dX11_fasting_9 : decode cX11_fasting 9 = .ok (.bipush (-101), 2) := by decide +kernel
theorem dX11_fasting_11 : decode cX11_fasting 11 = .ok (.ireturn, 1) := by decide +kernel
theorem dX11_fasting_12 : decode cX11_fasting 12 = .ok (.iload_n 3, 1) := by decide +kernel
theorem dX11_fasting_13 : decode cX11_fasting 13 = .ok (.iconst 1, 1) := by decide +kernel
theorem dX11_fasting_14 : decode cX11_fasting 14 = .ok (.bipush 30, 2) := by decide +kernel
theorem dX11_fasting_16 : decode cX11_fasting 16 = .ok (.invokestatic 90, 3) := by decide +kernel
theorem dX11_fasting_19 : decode cX11_fasting 19 = .ok (.ifCond .ne 6, 3) := by decide +kernel
theorem dX11_fasting_22 : decode cX11_fasting 22 = .ok (.bipush (-102), 2) := by decide +kernel
theorem dX11_fasting_24 : decode cX11_fasting 24 = .ok (.ireturn, 1) := by decide +kernel
theorem dX11_fasting_25 : decode cX11_fasting 25 = .ok (.iconst 0, 1) := by decide +kernel
theorem dX11_fasting_26 : decode cX11_fasting 26 = .ok (.istore 4, 2) := by decide +kernel
theorem dX11_fasting_28 : decode cX11_fasting 28 = .ok (.iload 4, 2) := by decide +kernel
theorem dX11_fasting_30 : decode cX11_fasting 30 = .ok (.aload_n 0, 1) := by decide +kernel
theorem dX11_fasting_31 : decode cX11_fasting 31 = .ok (.getfield 134, 3) := by decide +kernel
theorem dX11_fasting_34 : decode cX11_fasting 34 = .ok (.if_icmp .ge 24, 3) := by decide +kernel
theorem dX11_fasting_37 : decode cX11_fasting 37 = .ok (.aload_n 0, 1) := by decide +kernel
theorem dX11_fasting_38 : decode cX11_fasting 38 = .ok (.iload_n 1, 1) := by decide +kernel
theorem dX11_fasting_39 : decode cX11_fasting 39 = .ok (.iload_n 2, 1) := by decide +kernel
theorem dX11_fasting_40 : decode cX11_fasting 40 = .ok (.iload_n 3, 1) := by decide +kernel
theorem dX11_fasting_41 : decode cX11_fasting 41 = .ok (.iload 4, 2) := by decide +kernel
theorem dX11_fasting_43 : decode cX11_fasting 43 = .ok (.invokevirtual 266, 3) := by decide +kernel
theorem dX11_fasting_46 : decode cX11_fasting 46 = .ok (.ifCond .eq 6, 3) := by decide +kernel
theorem dX11_fasting_49 : decode cX11_fasting 49 = .ok (.iload 4, 2) := by decide +kernel
theorem dX11_fasting_51 : decode cX11_fasting 51 = .ok (.ireturn, 1) := by decide +kernel
theorem dX11_fasting_52 : decode cX11_fasting 52 = .ok (.iinc 4 1, 3) := by decide +kernel
theorem dX11_fasting_55 : decode cX11_fasting 55 = .ok (.goto (-27), 3) := by decide +kernel
theorem dX11_fasting_58 : decode cX11_fasting 58 = .ok (.iconst (-1), 1) := by decide +kernel
theorem dX11_fasting_59 : decode cX11_fasting 59 = .ok (.ireturn, 1) := by decide +kernel
theorem dX11_passSkipped_0 : decode cX11_passSkipped 0 = .ok (.iload_n 1, 1) := by decide +kernel
theorem dX11_passSkipped_1 : decode cX11_passSkipped 1 = .ok (.istore_n 3, 1) := by decide +kernel
theorem dX11_passSkipped_2 : decode cX11_passSkipped 2 = .ok (.aload_n 0, 1) := by decide +kernel
theorem dX11_passSkipped_3 : decode cX11_passSkipped 3 = .ok (.aload_n 0, 1) := by decide +kernel
theorem dX11_passSkipped_4 : decode cX11_passSkipped 4 = .ok (.getfield 31, 3) := by decide +kernel
theorem dX11_passSkipped_7 : decode cX11_passSkipped 7 = .ok (.iload_n 3, 1) := by decide +kernel
theorem dX11_passSkipped_8 : decode cX11_passSkipped 8 = .ok (.iaload, 1) := by decide +kernel
theorem dX11_passSkipped_9 : decode cX11_passSkipped 9 = .ok (.invokevirtual 193, 3) := by decide +kernel
theorem dX11_passSkipped_12 : decode cX11_passSkipped 12 = .ok (.ifCond .eq 13, 3) := by decide +kernel
theorem dX11_passSkipped_15 : decode cX11_passSkipped 15 = .ok (.aload_n 0, 1) := by decide +kernel
theorem dX11_passSkipped_16 : decode cX11_passSkipped 16 = .ok (.iload_n 3, 1) := by decide +kernel
theorem dX11_passSkipped_17 : decode cX11_passSkipped 17 = .ok (.iload_n 2, 1) := by decide +kernel
theorem dX11_passSkipped_18 : decode cX11_passSkipped 18 = .ok (.invokevirtual 226, 3) := by decide +kernel
theorem dX11_passSkipped_21 : decode cX11_passSkipped 21 = .ok (.istore_n 3, 1) := by decide +kernel
theorem dX11_passSkipped_22 : decode cX11_passSkipped 22 = .ok (.goto (-20), 3) := by decide +kernel
theorem dX11_passSkipped_25 : decode cX11_passSkipped 25 = .ok (.iload_n 3, 1) := by decide +kernel
theorem dX11_passSkipped_26 : decode cX11_passSkipped 26 = .ok (.ireturn, 1) := by decide +kernel
theorem dX11_goSchism_0 : decode cX11_goSchism 0 = .ok (.aload_n 0, 1) := by decide +kernel
theorem dX11_goSchism_1 : decode cX11_goSchism 1 = .ok (.iconst 0, 1) := by decide +kernel
theorem dX11_goSchism_2 : decode cX11_goSchism 2 = .ok (.putfield 160, 3) := by decide +kernel
theorem dX11_goSchism_5 : decode cX11_goSchism 5 = .ok (.aload_n 0, 1) := by decide +kernel
theorem dX11_goSchism_6 : decode cX11_goSchism 6 = .ok (.iconst 0, 1) := by decide +kernel
theorem dX11_goSchism_7 : decode cX11_goSchism 7 = .ok (.putfield 163, 3) := by decide +kernel
theorem dX11_goSchism_10 : decode cX11_goSchism 10 = .ok (.aload_n 0, 1) := by decide +kernel
theorem dX11_goSchism_11 : decode cX11_goSchism 11 = .ok (.iconst 0, 1) := by decide +kernel
theorem dX11_goSchism_12 : decode cX11_goSchism 12 = .ok (.putfield 166, 3) := by decide +kernel
theorem dX11_goSchism_15 : decode cX11_goSchism 15 = .ok (.aload_n 0, 1) := by decide +kernel
theorem dX11_goSchism_16 : decode cX11_goSchism 16 = .ok (.iconst 0, 1) := by decide +kernel
theorem dX11_goSchism_17 : decode cX11_goSchism 17 = .ok (.putfield 169, 3) := by decide +kernel
theorem dX11_goSchism_20 : decode cX11_goSchism 20 = .ok (.aload_n 0, 1) := by decide +kernel
theorem dX11_goSchism_21 : decode cX11_goSchism 21 = .ok (.iconst (-1), 1) := by decide +kernel
theorem dX11_goSchism_22 : decode cX11_goSchism 22 = .ok (.putfield 172, 3) := by decide +kernel
theorem dX11_goSchism_25 : decode cX11_goSchism 25 = .ok (.aload_n 0, 1) := by decide +kernel
theorem dX11_goSchism_26 : decode cX11_goSchism 26 = .ok (.invokevirtual 233, 3) := by decide +kernel
theorem dX11_goSchism_29 : decode cX11_goSchism 29 = .ok (.aload_n 0, 1) := by decide +kernel
theorem dX11_goSchism_30 : decode cX11_goSchism 30 = .ok (.invokevirtual 208, 3) := by decide +kernel
theorem dX11_goSchism_33 : decode cX11_goSchism 33 = .ok (.iload_n 1, 1) := by decide +kernel
theorem dX11_goSchism_34 : decode cX11_goSchism 34 = .ok (.istore_n 2, 1) := by decide +kernel
theorem dX11_goSchism_35 : decode cX11_goSchism 35 = .ok (.iload_n 1, 1) := by decide +kernel
theorem dX11_goSchism_36 : decode cX11_goSchism 36 = .ok (.aload_n 0, 1) := by decide +kernel
theorem dX11_goSchism_37 : decode cX11_goSchism 37 = .ok (.getfield 134, 3) := by decide +kernel
theorem dX11_goSchism_40 : decode cX11_goSchism 40 = .ok (.iconst 2, 1) := by decide +kernel
theorem dX11_goSchism_41 : decode cX11_goSchism 41 = .ok (.idiv, 1) := by decide +kernel
theorem dX11_goSchism_42 : decode cX11_goSchism 42 = .ok (.iadd, 1) := by decide +kernel
theorem dX11_goSchism_43 : decode cX11_goSchism 43 = .ok (.aload_n 0, 1) := by decide +kernel
theorem dX11_goSchism_44 : decode cX11_goSchism 44 = .ok (.getfield 134, 3) := by decide +kernel
theorem dX11_goSchism_47 : decode cX11_goSchism 47 = .ok (.irem, 1) := by decide +kernel
theorem dX11_goSchism_48 : decode cX11_goSchism 48 = .ok (.istore_n 3, 1) := by decide +kernel
theorem dX11_goSchism_49 : decode cX11_goSchism 49 = .ok (.aload_n 0, 1) := by decide +kernel
theorem dX11_goSchism_50 : decode cX11_goSchism 50 = .ok (.invokevirtual 211, 3) := by decide +kernel
theorem dX11_goSchism_53 : decode cX11_goSchism 53 = .ok (.ifCond .ne 122, 3) := by decide +kernel
theorem dX11_goSchism_56 : decode cX11_goSchism 56 = .ok (.aload_n 0, 1) := by decide +kernel
theorem dX11_goSchism_57 : decode cX11_goSchism 57 = .ok (.getfield 178, 3) := by decide +kernel
theorem dX11_goSchism_60 : decode cX11_goSchism 60 = .ok (.iconst 2, 1) := by decide +kernel
theorem dX11_goSchism_61 : decode cX11_goSchism 61 = .ok (.irem, 1) := by decide +kernel
theorem dX11_goSchism_62 : decode cX11_goSchism 62 = .ok (.ifCond .ne 7, 3) := by decide +kernel
theorem dX11_goSchism_65 : decode cX11_goSchism 65 = .ok (.iconst 1, 1) := by decide +kernel
theorem dX11_goSchism_66 : decode cX11_goSchism 66 = .ok (.goto 4, 3) := by decide +kernel
theorem dX11_goSchism_69 : decode cX11_goSchism 69 = .ok (.iconst 0, 1) := by decide +kernel
theorem dX11_goSchism_70 : decode cX11_goSchism 70 = .ok (.istore 4, 2) := by decide +kernel
theorem dX11_goSchism_72 : decode cX11_goSchism 72 = .ok (.aload_n 0, 1) := by decide +kernel
theorem dX11_goSchism_73 : decode cX11_goSchism 73 = .ok (.iload 4, 2) := by decide +kernel
theorem dX11_goSchism_75 : decode cX11_goSchism 75 = .ok (.ifCond .eq 7, 3) := by decide +kernel
theorem dX11_goSchism_78 : decode cX11_goSchism 78 = .ok (.iload_n 2, 1) := by decide +kernel
theorem dX11_goSchism_79 : decode cX11_goSchism 79 = .ok (.goto 4, 3) := by decide +kernel
theorem dX11_goSchism_82 : decode cX11_goSchism 82 = .ok (.iload_n 3, 1) := by decide +kernel
theorem dX11_goSchism_83 : decode cX11_goSchism 83 = .ok (.iload 4, 2) := by decide +kernel
theorem dX11_goSchism_85 : decode cX11_goSchism 85 = .ok (.invokevirtual 270, 3) := by decide +kernel
theorem dX11_goSchism_88 : decode cX11_goSchism 88 = .ok (.istore 5, 2) := by decide +kernel
theorem dX11_goSchism_90 : decode cX11_goSchism 90 = .ok (.iload 5, 2) := by decide +kernel
theorem dX11_goSchism_92 : decode cX11_goSchism 92 = .ok (.iload 4, 2) := by decide +kernel
theorem dX11_goSchism_94 : decode cX11_goSchism 94 = .ok (.ifCond .eq 7, 3) := by decide +kernel
theorem dX11_goSchism_97 : decode cX11_goSchism 97 = .ok (.iload_n 3, 1) := by decide +kernel
theorem dX11_goSchism_98 : decode cX11_goSchism 98 = .ok (.goto 4, 3) := by decide +kernel
theorem dX11_goSchism_101 : decode cX11_goSchism 101 = .ok (.iload_n 2, 1) := by decide +kernel
theorem dX11_goSchism_102 : decode cX11_goSchism 102 = .ok (.if_icmp .ne 11, 3) := by decide +kernel
theorem dX11_goSchism_105 : decode cX11_goSchism 105 = .ok (.aload_n 0, 1) := by decide +kernel
theorem dX11_goSchism_106 : decode cX11_goSchism 106 = .ok (.iconst 1, 1) := by decide +kernel
theorem dX11_goSchism_107 : decode cX11_goSchism 107 = .ok (.invokevirtual 223, 3) := by decide +kernel
theorem dX11_goSchism_110 : decode cX11_goSchism 110 = .ok (.goto 28, 3) := by decide +kernel
theorem dX11_goSchism_113 : decode cX11_goSchism 113 = .ok (.aload_n 0, 1) := by decide +kernel
theorem dX11_goSchism_114 : decode cX11_goSchism 114 = .ok (.getfield 31, 3) := by decide +kernel
theorem dX11_goSchism_117 : decode cX11_goSchism 117 = .ok (.iload 5, 2) := by decide +kernel
theorem dX11_goSchism_119 : decode cX11_goSchism 119 = .ok (.iaload, 1) := by decide +kernel
theorem dX11_goSchism_120 : decode cX11_goSchism 120 = .ok (.istore 6, 2) := by decide +kernel
theorem dX11_goSchism_122 : decode cX11_goSchism 122 = .ok (.aload_n 0, 1) := by decide +kernel
theorem dX11_goSchism_123 : decode cX11_goSchism 123 = .ok (.iload 6, 2) := by decide +kernel
theorem dX11_goSchism_125 : decode cX11_goSchism 125 = .ok (.invokevirtual 217, 3) := by decide +kernel
theorem dX11_goSchism_128 : decode cX11_goSchism 128 = .ok (.aload_n 0, 1) := by decide +kernel
theorem dX11_goSchism_129 : decode cX11_goSchism 129 = .ok (.aload_n 0, 1) := by decide +kernel
theorem dX11_goSchism_130 : decode cX11_goSchism 130 = .ok (.iload 6, 2) := by decide +kernel
theorem dX11_goSchism_132 : decode cX11_goSchism 132 = .ok (.invokevirtual 220, 3) := by decide +kernel
theorem dX11_goSchism_135 : decode cX11_goSchism 135 = .ok (.invokevirtual 223, 3) := by decide +kernel
theorem dX11_goSchism_138 : decode cX11_goSchism 138 = .ok (.aload_n 0, 1) := by decide +kernel
theorem dX11_goSchism_139 : decode cX11_goSchism 139 = .ok (.iload 5, 2) := by decide +kernel
theorem dX11_goSchism_141 : decode cX11_goSchism 141 = .ok (.iload 4, 2) := by decide +kernel
theorem dX11_goSchism_143 : decode cX11_goSchism 143 = .ok (.invokevirtual 226, 3) := by decide +kernel
theorem dX11_goSchism_146 : decode cX11_goSchism 146 = .ok (.istore 5, 2) := by decide +kernel
theorem dX11_goSchism_148 : decode cX11_goSchism 148 = .ok (.iload 4, 2) := by decide +kernel
theorem dX11_goSchism_150 : decode cX11_goSchism 150 = .ok (.ifCond .eq 8, 3) := by decide +kernel
theorem dX11_goSchism_153 : decode cX11_goSchism 153 = .ok (.iload 5, 2) := by decide +kernel
theorem dX11_goSchism_155 : decode cX11_goSchism 155 = .ok (.goto 4, 3) := by decide +kernel
theorem dX11_goSchism_158 : decode cX11_goSchism 158 = .ok (.iload_n 2, 1) := by decide +kernel
theorem dX11_goSchism_159 : decode cX11_goSchism 159 = .ok (.istore_n 2, 1) := by decide +kernel
theorem dX11_goSchism_160 : decode cX11_goSchism 160 = .ok (.iload 4, 2) := by decide +kernel
theorem dX11_goSchism_162 : decode cX11_goSchism 162 = .ok (.ifCond .eq 7, 3) := by decide +kernel
theorem dX11_goSchism_165 : decode cX11_goSchism 165 = .ok (.iload_n 3, 1) := by decide +kernel
theorem dX11_goSchism_166 : decode cX11_goSchism 166 = .ok (.goto 5, 3) := by decide +kernel
theorem dX11_goSchism_169 : decode cX11_goSchism 169 = .ok (.iload 5, 2) := by decide +kernel
theorem dX11_goSchism_171 : decode cX11_goSchism 171 = .ok (.istore_n 3, 1) := by decide +kernel
theorem dX11_goSchism_172 : decode cX11_goSchism 172 = .ok (.goto (-123), 3) := by decide +kernel
theorem dX11_goSchism_175 : decode cX11_goSchism 175 = .ok (.return_, 1) := by decide +kernel
theorem dX11_schism_0 : decode cX11_schism 0 = .ok (.aload_n 0, 1) := by decide +kernel
theorem dX11_schism_1 : decode cX11_schism 1 = .ok (.iload_n 1, 1) := by decide +kernel
theorem dX11_schism_2 : decode cX11_schism 2 = .ok (.invokevirtual 147, 3) := by decide +kernel
theorem dX11_schism_5 : decode cX11_schism 5 = .ok (.ifCond .ne 6, 3) := by decide +kernel
theorem dX11_schism_8 : decode cX11_schism 8 = .ok (.bipush (-101), 2) := by decide +kernel
theorem dX11_schism_10 : decode cX11_schism 10 = .ok (.ireturn, 1) := by decide +kernel
theorem dX11_schism_11 : decode cX11_schism 11 = .ok (.iload_n 2, 1) := by decide +kernel
theorem dX11_schism_12 : decode cX11_schism 12 = .ok (.iconst 0, 1) := by decide +kernel
theorem dX11_schism_13 : decode cX11_schism 13 = .ok (.bipush 11, 2) := by decide +kernel
theorem dX11_schism_15 : decode cX11_schism 15 = .ok (.invokestatic 90, 3) := by decide +kernel
theorem dX11_schism_18 : decode cX11_schism 18 = .ok (.ifCond .ne 6, 3) := by decide +kernel
theorem dX11_schism_21 : decode cX11_schism 21 = .ok (.bipush (-102), 2) := by decide +kernel
theorem dX11_schism_23 : decode cX11_schism 23 = .ok (.ireturn, 1) := by decide +kernel
theorem dX11_schism_24 : decode cX11_schism 24 = .ok (.aload_n 0, 1) := by decide +kernel
theorem dX11_schism_25 : decode cX11_schism 25 = .ok (.iload_n 1, 1) := by decide +kernel
theorem dX11_schism_26 : decode cX11_schism 26 = .ok (.invokevirtual 273, 3) := by decide +kernel
theorem dX11_schism_29 : decode cX11_schism 29 = .ok (.iload_n 2, 1) := by decide +kernel
theorem dX11_schism_30 : decode cX11_schism 30 = .ok (.bipush 11, 2) := by decide +kernel
theorem dX11_schism_32 : decode cX11_schism 32 = .ok (.if_icmp .ne 10, 3) := by decide +kernel
theorem dX11_schism_35 : decode cX11_schism 35 = .ok (.aload_n 0, 1) := by decide +kernel
theorem dX11_schism_36 : decode cX11_schism 36 = .ok (.invokevirtual 196, 3) := by decide +kernel
theorem dX11_schism_39 : decode cX11_schism 39 = .ok (.goto 34, 3) := by decide +kernel
theorem dX11_schism_42 : decode cX11_schism 42 = .ok (.iload_n 2, 1) := by decide +kernel
theorem dX11_schism_43 : decode cX11_schism 43 = .ok (.bipush 10, 2) := by decide +kernel
theorem dX11_schism_45 : decode cX11_schism 45 = .ok (.if_icmp .ne 10, 3) := by decide +kernel
theorem dX11_schism_48 : decode cX11_schism 48 = .ok (.aload_n 0, 1) := by decide +kernel
theorem dX11_schism_49 : decode cX11_schism 49 = .ok (.getfield 178, 3) := by decide +kernel
theorem dX11_schism_52 : decode cX11_schism 52 = .ok (.goto 21, 3) := by decide +kernel
theorem dX11_schism_55 : decode cX11_schism 55 = .ok (.iload_n 2, 1) := by decide +kernel
theorem dX11_schism_56 : decode cX11_schism 56 = .ok (.aload_n 0, 1) := by decide +kernel
theorem dX11_schism_57 : decode cX11_schism 57 = .ok (.getfield 134, 3) := by decide +kernel
theorem dX11_schism_60 : decode cX11_schism 60 = .ok (.if_icmp .ge 12, 3) := by decide +kernel
theorem dX11_schism_63 : decode cX11_schism 63 = .ok (.aload_n 0, 1) := by decide +kernel
theorem dX11_schism_64 : decode cX11_schism 64 = .ok (.getfield 73, 3) := by decide +kernel
theorem dX11_schism_67 : decode cX11_schism 67 = .ok (.iload_n 2, 1) := by decide +kernel
theorem dX11_schism_68 : decode cX11_schism 68 = .ok (.iaload, 1) := by decide +kernel
theorem dX11_schism_69 : decode cX11_schism 69 = .ok (.goto 4, 3) := by decide +kernel
theorem dX11_schism_72 : decode cX11_schism 72 = .ok (.iconst (-1), 1) := by decide +kernel
theorem dX11_schism_73 : decode cX11_schism 73 = .ok (.ireturn, 1) := by decide +kernel
theorem dX11_explains_0 : decode cX11_explains 0 = .ok (.aload_n 0, 1) := by decide +kernel
theorem dX11_explains_1 : decode cX11_explains 1 = .ok (.iload_n 1, 1) := by decide +kernel
theorem dX11_explains_2 : decode cX11_explains 2 = .ok (.invokevirtual 230, 3) := by decide +kernel
theorem dX11_explains_5 : decode cX11_explains 5 = .ok (.aload_n 0, 1) := by decide +kernel
theorem dX11_explains_6 : decode cX11_explains 6 = .ok (.invokevirtual 233, 3) := by decide +kernel
theorem dX11_explains_9 : decode cX11_explains 9 = .ok (.aload_n 0, 1) := by decide +kernel
theorem dX11_explains_10 : decode cX11_explains 10 = .ok (.iload 5, 2) := by decide +kernel
theorem dX11_explains_12 : decode cX11_explains 12 = .ok (.putfield 172, 3) := by decide +kernel
theorem dX11_explains_15 : decode cX11_explains 15 = .ok (.aload_n 0, 1) := by decide +kernel
theorem dX11_explains_16 : decode cX11_explains 16 = .ok (.iload_n 2, 1) := by decide +kernel
theorem dX11_explains_17 : decode cX11_explains 17 = .ok (.iload_n 3, 1) := by decide +kernel
theorem dX11_explains_18 : decode cX11_explains 18 = .ok (.invokevirtual 237, 3) := by decide +kernel
theorem dX11_explains_21 : decode cX11_explains 21 = .ok (.aload_n 0, 1) := by decide +kernel
theorem dX11_explains_22 : decode cX11_explains 22 = .ok (.invokevirtual 196, 3) := by decide +kernel
theorem dX11_explains_25 : decode cX11_explains 25 = .ok (.iload 4, 2) := by decide +kernel
theorem dX11_explains_27 : decode cX11_explains 27 = .ok (.if_icmp .ne 7, 3) := by decide +kernel
theorem dX11_explains_30 : decode cX11_explains 30 = .ok (.iconst 1, 1) := by decide +kernel
theorem dX11_explains_31 : decode cX11_explains 31 = .ok (.goto 4, 3) := by decide +kernel
theorem dX11_explains_34 : decode cX11_explains 34 = .ok (.iconst 0, 1) := by decide +kernel
theorem dX11_explains_35 : decode cX11_explains 35 = .ok (.ireturn, 1) := by decide +kernel
theorem dX11_twice_0 : decode cX11_twice 0 = .ok (.aload_n 0, 1) := by decide +kernel
theorem dX11_twice_1 : decode cX11_twice 1 = .ok (.iload_n 1, 1) := by decide +kernel
theorem dX11_twice_2 : decode cX11_twice 2 = .ok (.iload_n 2, 1) := by decide +kernel
theorem dX11_twice_3 : decode cX11_twice 3 = .ok (.invokevirtual 240, 3) := by decide +kernel
theorem dX11_twice_6 : decode cX11_twice 6 = .ok (.ifCond .ne 6, 3) := by decide +kernel
theorem dX11_twice_9 : decode cX11_twice 9 = .ok (.bipush (-101), 2) := by decide +kernel
theorem dX11_twice_11 : decode cX11_twice 11 = .ok (.ireturn, 1) := by decide +kernel
theorem dX11_twice_12 : decode cX11_twice 12 = .ok (.iload_n 3, 1) := by decide +kernel
theorem dX11_twice_13 : decode cX11_twice 13 = .ok (.iconst 1, 1) := by decide +kernel
theorem dX11_twice_14 : decode cX11_twice 14 = .ok (.bipush 60, 2) := by decide +kernel
theorem dX11_twice_16 : decode cX11_twice 16 = .ok (.invokestatic 90, 3) := by decide +kernel
theorem dX11_twice_19 : decode cX11_twice 19 = .ok (.ifCond .eq 15, 3) := by decide +kernel
theorem dX11_twice_22 : decode cX11_twice 22 = .ok (.iload 4, 2) := by decide +kernel
theorem dX11_twice_24 : decode cX11_twice 24 = .ok (.iconst 0, 1) := by decide +kernel
theorem dX11_twice_25 : decode cX11_twice 25 = .ok (.sipush 495, 3) := by decide +kernel
theorem dX11_twice_28 : decode cX11_twice 28 = .ok (.invokestatic 90, 3) := by decide +kernel
theorem dX11_twice_31 : decode cX11_twice 31 = .ok (.ifCond .ne 6, 3) := by decide +kernel
theorem dX11_twice_34 : decode cX11_twice 34 = .ok (.bipush (-102), 2) := by decide +kernel
theorem dX11_twice_36 : decode cX11_twice 36 = .ok (.ireturn, 1) := by decide +kernel
theorem dX11_twice_37 : decode cX11_twice 37 = .ok (.aload_n 0, 1) := by decide +kernel
theorem dX11_twice_38 : decode cX11_twice 38 = .ok (.iload_n 1, 1) := by decide +kernel
theorem dX11_twice_39 : decode cX11_twice 39 = .ok (.iload_n 2, 1) := by decide +kernel
theorem dX11_twice_40 : decode cX11_twice 40 = .ok (.iload_n 3, 1) := by decide +kernel
theorem dX11_twice_41 : decode cX11_twice 41 = .ok (.iload 4, 2) := by decide +kernel
theorem dX11_twice_43 : decode cX11_twice 43 = .ok (.iconst (-1), 1) := by decide +kernel
theorem dX11_twice_44 : decode cX11_twice 44 = .ok (.invokevirtual 276, 3) := by decide +kernel
theorem dX11_twice_47 : decode cX11_twice 47 = .ok (.ifCond .eq 9, 3) := by decide +kernel
theorem dX11_twice_50 : decode cX11_twice 50 = .ok (.sipush 1024, 3) := by decide +kernel
theorem dX11_twice_53 : decode cX11_twice 53 = .ok (.goto 4, 3) := by decide +kernel
theorem dX11_twice_56 : decode cX11_twice 56 = .ok (.iconst 0, 1) := by decide +kernel
theorem dX11_twice_57 : decode cX11_twice 57 = .ok (.istore 5, 2) := by decide +kernel
theorem dX11_twice_59 : decode cX11_twice 59 = .ok (.iconst 0, 1) := by decide +kernel
theorem dX11_twice_60 : decode cX11_twice 60 = .ok (.istore 6, 2) := by decide +kernel
theorem dX11_twice_62 : decode cX11_twice 62 = .ok (.iload 6, 2) := by decide +kernel
theorem dX11_twice_64 : decode cX11_twice 64 = .ok (.aload_n 0, 1) := by decide +kernel
theorem dX11_twice_65 : decode cX11_twice 65 = .ok (.getfield 134, 3) := by decide +kernel
theorem dX11_twice_68 : decode cX11_twice 68 = .ok (.if_icmp .ge 36, 3) := by decide +kernel
theorem dX11_twice_71 : decode cX11_twice 71 = .ok (.iload 5, 2) := by decide +kernel
theorem dX11_twice_73 : decode cX11_twice 73 = .ok (.aload_n 0, 1) := by decide +kernel
theorem dX11_twice_74 : decode cX11_twice 74 = .ok (.iload_n 1, 1) := by decide +kernel
theorem dX11_twice_75 : decode cX11_twice 75 = .ok (.iload_n 2, 1) := by decide +kernel
theorem dX11_twice_76 : decode cX11_twice 76 = .ok (.iload_n 3, 1) := by decide +kernel
theorem dX11_twice_77 : decode cX11_twice 77 = .ok (.iload 4, 2) := by decide +kernel
theorem dX11_twice_79 : decode cX11_twice 79 = .ok (.iload 6, 2) := by decide +kernel
theorem dX11_twice_81 : decode cX11_twice 81 = .ok (.invokevirtual 276, 3) := by decide +kernel
theorem dX11_twice_84 : decode cX11_twice 84 = .ok (.ifCond .eq 10, 3) := by decide +kernel
theorem dX11_twice_87 : decode cX11_twice 87 = .ok (.iconst 1, 1) := by decide +kernel
theorem dX11_twice_88 : decode cX11_twice 88 = .ok (.iload 6, 2) := by decide +kernel
theorem dX11_twice_90 : decode cX11_twice 90 = .ok (.ishl, 1) := by decide +kernel
theorem dX11_twice_91 : decode cX11_twice 91 = .ok (.goto 4, 3) := by decide +kernel
theorem dX11_twice_94 : decode cX11_twice 94 = .ok (.iconst 0, 1) := by decide +kernel
theorem dX11_twice_95 : decode cX11_twice 95 = .ok (.ior, 1) := by decide +kernel
theorem dX11_twice_96 : decode cX11_twice 96 = .ok (.istore 5, 2) := by decide +kernel
theorem dX11_twice_98 : decode cX11_twice 98 = .ok (.iinc 6 1, 3) := by decide +kernel
theorem dX11_twice_101 : decode cX11_twice 101 = .ok (.goto (-39), 3) := by decide +kernel
theorem dX11_twice_104 : decode cX11_twice 104 = .ok (.iload 5, 2) := by decide +kernel
theorem dX11_twice_106 : decode cX11_twice 106 = .ok (.ireturn, 1) := by decide +kernel
theorem dX11_image_0 : decode cX11_image 0 = .ok (.aload_n 0, 1) := by decide +kernel
theorem dX11_image_1 : decode cX11_image 1 = .ok (.iconst 1, 1) := by decide +kernel
theorem dX11_image_2 : decode cX11_image 2 = .ok (.putfield 280, 3) := by decide +kernel
theorem dX11_image_5 : decode cX11_image 5 = .ok (.aload_n 0, 1) := by decide +kernel
theorem dX11_image_6 : decode cX11_image 6 = .ok (.aload_n 0, 1) := by decide +kernel
theorem dX11_image_7 : decode cX11_image 7 = .ok (.getfield 134, 3) := by decide +kernel
theorem dX11_image_10 : decode cX11_image 10 = .ok (.putfield 283, 3) := by decide +kernel
theorem dX11_image_13 : decode cX11_image 13 = .ok (.aload_n 0, 1) := by decide +kernel
theorem dX11_image_14 : decode cX11_image 14 = .ok (.aload_n 0, 1) := by decide +kernel
theorem dX11_image_15 : decode cX11_image 15 = .ok (.getfield 37, 3) := by decide +kernel
theorem dX11_image_18 : decode cX11_image 18 = .ok (.putfield 286, 3) := by decide +kernel
theorem dX11_image_21 : decode cX11_image 21 = .ok (.aload_n 0, 1) := by decide +kernel
theorem dX11_image_22 : decode cX11_image 22 = .ok (.aload_n 0, 1) := by decide +kernel
theorem dX11_image_23 : decode cX11_image 23 = .ok (.getfield 154, 3) := by decide +kernel
theorem dX11_image_26 : decode cX11_image 26 = .ok (.putfield 289, 3) := by decide +kernel
theorem dX11_image_29 : decode cX11_image 29 = .ok (.iconst 0, 1) := by decide +kernel
theorem dX11_image_30 : decode cX11_image 30 = .ok (.istore_n 1, 1) := by decide +kernel
theorem dX11_image_31 : decode cX11_image 31 = .ok (.iload_n 1, 1) := by decide +kernel
theorem dX11_image_32 : decode cX11_image 32 = .ok (.bipush 10, 2) := by decide +kernel
theorem dX11_image_34 : decode cX11_image 34 = .ok (.if_icmp .ge 33, 3) := by decide +kernel
theorem dX11_image_37 : decode cX11_image 37 = .ok (.aload_n 0, 1) := by decide +kernel
theorem dX11_image_38 : decode cX11_image 38 = .ok (.getfield 58, 3) := by decide +kernel
theorem dX11_image_41 : decode cX11_image 41 = .ok (.iload_n 1, 1) := by decide +kernel
theorem dX11_image_42 : decode cX11_image 42 = .ok (.aload_n 0, 1) := by decide +kernel
theorem dX11_image_43 : decode cX11_image 43 = .ok (.getfield 25, 3) := by decide +kernel
theorem dX11_image_46 : decode cX11_image 46 = .ok (.iload_n 1, 1) := by decide +kernel
theorem dX11_image_47 : decode cX11_image 47 = .ok (.iaload, 1) := by decide +kernel
theorem dX11_image_48 : decode cX11_image 48 = .ok (.iastore, 1) := by decide +kernel
theorem dX11_image_49 : decode cX11_image 49 = .ok (.aload_n 0, 1) := by decide +kernel
theorem dX11_image_50 : decode cX11_image 50 = .ok (.getfield 61, 3) := by decide +kernel
theorem dX11_image_53 : decode cX11_image 53 = .ok (.iload_n 1, 1) := by decide +kernel
theorem dX11_image_54 : decode cX11_image 54 = .ok (.aload_n 0, 1) := by decide +kernel
theorem dX11_image_55 : decode cX11_image 55 = .ok (.getfield 28, 3) := by decide +kernel
theorem dX11_image_58 : decode cX11_image 58 = .ok (.iload_n 1, 1) := by decide +kernel
theorem dX11_image_59 : decode cX11_image 59 = .ok (.iaload, 1) := by decide +kernel
theorem dX11_image_60 : decode cX11_image 60 = .ok (.iastore, 1) := by decide +kernel
theorem dX11_image_61 : decode cX11_image 61 = .ok (.iinc 1 1, 3) := by decide +kernel
theorem dX11_image_64 : decode cX11_image 64 = .ok (.goto (-33), 3) := by decide +kernel
theorem dX11_image_67 : decode cX11_image 67 = .ok (.iconst 0, 1) := by decide +kernel
theorem dX11_image_68 : decode cX11_image 68 = .ok (.istore_n 1, 1) := by decide +kernel
theorem dX11_image_69 : decode cX11_image 69 = .ok (.iload_n 1, 1) := by decide +kernel
theorem dX11_image_70 : decode cX11_image 70 = .ok (.iconst 5, 1) := by decide +kernel
theorem dX11_image_71 : decode cX11_image 71 = .ok (.if_icmp .ge 21, 3) := by decide +kernel
theorem dX11_image_74 : decode cX11_image 74 = .ok (.aload_n 0, 1) := by decide +kernel
theorem dX11_image_75 : decode cX11_image 75 = .ok (.getfield 64, 3) := by decide +kernel
theorem dX11_image_78 : decode cX11_image 78 = .ok (.iload_n 1, 1) := by decide +kernel
theorem dX11_image_79 : decode cX11_image 79 = .ok (.aload_n 0, 1) := by decide +kernel
theorem dX11_image_80 : decode cX11_image 80 = .ok (.getfield 34, 3) := by decide +kernel
theorem dX11_image_83 : decode cX11_image 83 = .ok (.iload_n 1, 1) := by decide +kernel
theorem dX11_image_84 : decode cX11_image 84 = .ok (.iaload, 1) := by decide +kernel
theorem dX11_image_85 : decode cX11_image 85 = .ok (.iastore, 1) := by decide +kernel
theorem dX11_image_86 : decode cX11_image 86 = .ok (.iinc 1 1, 3) := by decide +kernel
theorem dX11_image_89 : decode cX11_image 89 = .ok (.goto (-20), 3) := by decide +kernel
theorem dX11_image_92 : decode cX11_image 92 = .ok (.aload_n 0, 1) := by decide +kernel
theorem dX11_image_93 : decode cX11_image 93 = .ok (.getfield 134, 3) := by decide +kernel
theorem dX11_image_96 : decode cX11_image 96 = .ok (.ireturn, 1) := by decide +kernel
theorem dX11_restore_0 : decode cX11_restore 0 = .ok (.aload_n 0, 1) := by decide +kernel
theorem dX11_restore_1 : decode cX11_restore 1 = .ok (.getfield 280, 3) := by decide +kernel
theorem dX11_restore_4 : decode cX11_restore 4 = .ok (.ifCond .ne 6, 3) := by decide +kernel
theorem dX11_restore_7 : decode cX11_restore 7 = .ok (.bipush (-103), 2) := by decide +kernel
theorem dX11_restore_9 : decode cX11_restore 9 = .ok (.ireturn, 1) := by decide +kernel
theorem dX11_restore_10 : decode cX11_restore 10 = .ok (.aload_n 0, 1) := by decide +kernel
theorem dX11_restore_11 : decode cX11_restore 11 = .ok (.aload_n 0, 1) := by decide +kernel
theorem dX11_restore_12 : decode cX11_restore 12 = .ok (.getfield 286, 3) := by decide +kernel
theorem dX11_restore_15 : decode cX11_restore 15 = .ok (.putfield 37, 3) := by decide +kernel
theorem dX11_restore_18 : decode cX11_restore 18 = .ok (.aload_n 0, 1) := by decide +kernel
theorem dX11_restore_19 : decode cX11_restore 19 = .ok (.aload_n 0, 1) := by decide +kernel
theorem dX11_restore_20 : decode cX11_restore 20 = .ok (.getfield 289, 3) := by decide +kernel
theorem dX11_restore_23 : decode cX11_restore 23 = .ok (.putfield 154, 3) := by decide +kernel
theorem dX11_restore_26 : decode cX11_restore 26 = .ok (.iconst 0, 1) := by decide +kernel
theorem dX11_restore_27 : decode cX11_restore 27 = .ok (.istore_n 1, 1) := by decide +kernel
theorem dX11_restore_28 : decode cX11_restore 28 = .ok (.iload_n 1, 1) := by decide +kernel
theorem dX11_restore_29 : decode cX11_restore 29 = .ok (.aload_n 0, 1) := by decide +kernel
theorem dX11_restore_30 : decode cX11_restore 30 = .ok (.getfield 134, 3) := by decide +kernel
theorem dX11_restore_33 : decode cX11_restore 33 = .ok (.if_icmp .ge 62, 3) := by decide +kernel
theorem dX11_restore_36 : decode cX11_restore 36 = .ok (.aload_n 0, 1) := by decide +kernel
theorem dX11_restore_37 : decode cX11_restore 37 = .ok (.getfield 25, 3) := by decide +kernel
theorem dX11_restore_40 : decode cX11_restore 40 = .ok (.iload_n 1, 1) := by decide +kernel
theorem dX11_restore_41 : decode cX11_restore 41 = .ok (.iload_n 1, 1) := by decide +kernel
theorem dX11_restore_42 : decode cX11_restore 42 = .ok (.aload_n 0, 1) := by decide +kernel
theorem dX11_restore_43 : decode cX11_restore 43 = .ok (.getfield 283, 3) := by decide +kernel
theorem dX11_restore_46 : decode cX11_restore 46 = .ok (.if_icmp .ge 12, 3) := by decide +kernel
theorem dX11_restore_49 : decode cX11_restore 49 = .ok (.aload_n 0, 1) := by decide +kernel
theorem dX11_restore_50 : decode cX11_restore 50 = .ok (.getfield 58, 3) := by decide +kernel
theorem dX11_restore_53 : decode cX11_restore 53 = .ok (.iload_n 1, 1) := by decide +kernel
theorem dX11_restore_54 : decode cX11_restore 54 = .ok (.iaload, 1) := by decide +kernel
theorem dX11_restore_55 : decode cX11_restore 55 = .ok (.goto 9, 3) := by decide +kernel
theorem dX11_restore_58 : decode cX11_restore 58 = .ok (.aload_n 0, 1) := by decide +kernel
theorem dX11_restore_59 : decode cX11_restore 59 = .ok (.getfield 25, 3) := by decide +kernel
theorem dX11_restore_62 : decode cX11_restore 62 = .ok (.iload_n 1, 1) := by decide +kernel
theorem dX11_restore_63 : decode cX11_restore 63 = .ok (.iaload, 1) := by decide +kernel
theorem dX11_restore_64 : decode cX11_restore 64 = .ok (.iastore, 1) := by decide +kernel
theorem dX11_restore_65 : decode cX11_restore 65 = .ok (.aload_n 0, 1) := by decide +kernel
theorem dX11_restore_66 : decode cX11_restore 66 = .ok (.getfield 28, 3) := by decide +kernel
theorem dX11_restore_69 : decode cX11_restore 69 = .ok (.iload_n 1, 1) := by decide +kernel
theorem dX11_restore_70 : decode cX11_restore 70 = .ok (.iload_n 1, 1) := by decide +kernel
theorem dX11_restore_71 : decode cX11_restore 71 = .ok (.aload_n 0, 1) := by decide +kernel
theorem dX11_restore_72 : decode cX11_restore 72 = .ok (.getfield 283, 3) := by decide +kernel
theorem dX11_restore_75 : decode cX11_restore 75 = .ok (.if_icmp .ge 12, 3) := by decide +kernel
theorem dX11_restore_78 : decode cX11_restore 78 = .ok (.aload_n 0, 1) := by decide +kernel
theorem dX11_restore_79 : decode cX11_restore 79 = .ok (.getfield 61, 3) := by decide +kernel
theorem dX11_restore_82 : decode cX11_restore 82 = .ok (.iload_n 1, 1) := by decide +kernel
theorem dX11_restore_83 : decode cX11_restore 83 = .ok (.iaload, 1) := by decide +kernel
theorem dX11_restore_84 : decode cX11_restore 84 = .ok (.goto 4, 3) := by decide +kernel
theorem dX11_restore_87 : decode cX11_restore 87 = .ok (.iload_n 1, 1) := by decide +kernel
theorem dX11_restore_88 : decode cX11_restore 88 = .ok (.iastore, 1) := by decide +kernel
theorem dX11_restore_89 : decode cX11_restore 89 = .ok (.iinc 1 1, 3) := by decide +kernel
theorem dX11_restore_92 : decode cX11_restore 92 = .ok (.goto (-64), 3) := by decide +kernel
theorem dX11_restore_95 : decode cX11_restore 95 = .ok (.iconst 0, 1) := by decide +kernel
theorem dX11_restore_96 : decode cX11_restore 96 = .ok (.istore_n 1, 1) := by decide +kernel
theorem dX11_restore_97 : decode cX11_restore 97 = .ok (.iload_n 1, 1) := by decide +kernel
theorem dX11_restore_98 : decode cX11_restore 98 = .ok (.aload_n 0, 1) := by decide +kernel
theorem dX11_restore_99 : decode cX11_restore 99 = .ok (.getfield 134, 3) := by decide +kernel
theorem dX11_restore_102 : decode cX11_restore 102 = .ok (.if_icmp .ge 21, 3) := by decide +kernel
theorem dX11_restore_105 : decode cX11_restore 105 = .ok (.aload_n 0, 1) := by decide +kernel
theorem dX11_restore_106 : decode cX11_restore 106 = .ok (.getfield 31, 3) := by decide +kernel
theorem dX11_restore_109 : decode cX11_restore 109 = .ok (.aload_n 0, 1) := by decide +kernel
theorem dX11_restore_110 : decode cX11_restore 110 = .ok (.getfield 28, 3) := by decide +kernel
theorem dX11_restore_113 : decode cX11_restore 113 = .ok (.iload_n 1, 1) := by decide +kernel
theorem dX11_restore_114 : decode cX11_restore 114 = .ok (.iaload, 1) := by decide +kernel
theorem dX11_restore_115 : decode cX11_restore 115 = .ok (.iload_n 1, 1) := by decide +kernel
theorem dX11_restore_116 : decode cX11_restore 116 = .ok (.iastore, 1) := by decide +kernel
theorem dX11_restore_117 : decode cX11_restore 117 = .ok (.iinc 1 1, 3) := by decide +kernel
theorem dX11_restore_120 : decode cX11_restore 120 = .ok (.goto (-23), 3) := by decide +kernel
theorem dX11_restore_123 : decode cX11_restore 123 = .ok (.iconst 0, 1) := by decide +kernel
theorem dX11_restore_124 : decode cX11_restore 124 = .ok (.istore_n 1, 1) := by decide +kernel
theorem dX11_restore_125 : decode cX11_restore 125 = .ok (.iload_n 1, 1) := by decide +kernel
theorem dX11_restore_126 : decode cX11_restore 126 = .ok (.iconst 5, 1) := by decide +kernel
theorem dX11_restore_127 : decode cX11_restore 127 = .ok (.if_icmp .ge 21, 3) := by decide +kernel
theorem dX11_restore_130 : decode cX11_restore 130 = .ok (.aload_n 0, 1) := by decide +kernel
theorem dX11_restore_131 : decode cX11_restore 131 = .ok (.getfield 34, 3) := by decide +kernel
theorem dX11_restore_134 : decode cX11_restore 134 = .ok (.iload_n 1, 1) := by decide +kernel
theorem dX11_restore_135 : decode cX11_restore 135 = .ok (.aload_n 0, 1) := by decide +kernel
theorem dX11_restore_136 : decode cX11_restore 136 = .ok (.getfield 64, 3) := by decide +kernel
theorem dX11_restore_139 : decode cX11_restore 139 = .ok (.iload_n 1, 1) := by decide +kernel
theorem dX11_restore_140 : decode cX11_restore 140 = .ok (.iaload, 1) := by decide +kernel
theorem dX11_restore_141 : decode cX11_restore 141 = .ok (.iastore, 1) := by decide +kernel
theorem dX11_restore_142 : decode cX11_restore 142 = .ok (.iinc 1 1, 3) := by decide +kernel
theorem dX11_restore_145 : decode cX11_restore 145 = .ok (.goto (-20), 3) := by decide +kernel
theorem dX11_restore_148 : decode cX11_restore 148 = .ok (.aload_n 0, 1) := by decide +kernel
theorem dX11_restore_149 : decode cX11_restore 149 = .ok (.getfield 134, 3) := by decide +kernel
theorem dX11_restore_152 : decode cX11_restore 152 = .ok (.ireturn, 1) := by decide +kernel
theorem dX11_soupAll_0 : decode cX11_soupAll 0 = .ok (.iconst 0, 1) := by decide +kernel
theorem dX11_soupAll_1 : decode cX11_soupAll 1 = .ok (.istore_n 1, 1) := by decide +kernel
theorem dX11_soupAll_2 : decode cX11_soupAll 2 = .ok (.iconst 0, 1) := by decide +kernel
theorem dX11_soupAll_3 : decode cX11_soupAll 3 = .ok (.istore_n 2, 1) := by decide +kernel
theorem dX11_soupAll_4 : decode cX11_soupAll 4 = .ok (.iload_n 2, 1) := by decide +kernel
theorem dX11_soupAll_5 : decode cX11_soupAll 5 = .ok (.iconst 5, 1) := by decide +kernel
theorem dX11_soupAll_6 : decode cX11_soupAll 6 = .ok (.if_icmp .ge 18, 3) := by decide +kernel
theorem dX11_soupAll_9 : decode cX11_soupAll 9 = .ok (.iload_n 1, 1) := by decide +kernel
theorem dX11_soupAll_10 : decode cX11_soupAll 10 = .ok (.aload_n 0, 1) := by decide +kernel
theorem dX11_soupAll_11 : decode cX11_soupAll 11 = .ok (.getfield 34, 3) := by decide +kernel
theorem dX11_soupAll_14 : decode cX11_soupAll 14 = .ok (.iload_n 2, 1) := by decide +kernel
theorem dX11_soupAll_15 : decode cX11_soupAll 15 = .ok (.iaload, 1) := by decide +kernel
theorem dX11_soupAll_16 : decode cX11_soupAll 16 = .ok (.iadd, 1) := by decide +kernel
theorem dX11_soupAll_17 : decode cX11_soupAll 17 = .ok (.istore_n 1, 1) := by decide +kernel
theorem dX11_soupAll_18 : decode cX11_soupAll 18 = .ok (.iinc 2 1, 3) := by decide +kernel
theorem dX11_soupAll_21 : decode cX11_soupAll 21 = .ok (.goto (-17), 3) := by decide +kernel
theorem dX11_soupAll_24 : decode cX11_soupAll 24 = .ok (.iload_n 1, 1) := by decide +kernel
theorem dX11_soupAll_25 : decode cX11_soupAll 25 = .ok (.ireturn, 1) := by decide +kernel
theorem dX11_starvedMany_0 : decode cX11_starvedMany 0 = .ok (.iconst 0, 1) := by decide +kernel
theorem dX11_starvedMany_1 : decode cX11_starvedMany 1 = .ok (.istore_n 1, 1) := by decide +kernel
theorem dX11_starvedMany_2 : decode cX11_starvedMany 2 = .ok (.iconst 0, 1) := by decide +kernel
theorem dX11_starvedMany_3 : decode cX11_starvedMany 3 = .ok (.istore_n 2, 1) := by decide +kernel
theorem dX11_starvedMany_4 : decode cX11_starvedMany 4 = .ok (.iload_n 2, 1) := by decide +kernel
theorem dX11_starvedMany_5 : decode cX11_starvedMany 5 = .ok (.aload_n 0, 1) := by decide +kernel
theorem dX11_starvedMany_6 : decode cX11_starvedMany 6 = .ok (.getfield 134, 3) := by decide +kernel
theorem dX11_starvedMany_9 : decode cX11_starvedMany 9 = .ok (.if_icmp .ge 26, 3) := by decide +kernel
theorem dX11_starvedMany_12 : decode cX11_starvedMany 12 = .ok (.iload_n 1, 1) := by decide +kernel
theorem dX11_starvedMany_13 : decode cX11_starvedMany 13 = .ok (.aload_n 0, 1) := by decide +kernel
theorem dX11_starvedMany_14 : decode cX11_starvedMany 14 = .ok (.getfield 25, 3) := by decide +kernel
theorem dX11_starvedMany_17 : decode cX11_starvedMany 17 = .ok (.iload_n 2, 1) := by decide +kernel
theorem dX11_starvedMany_18 : decode cX11_starvedMany 18 = .ok (.iaload, 1) := by decide +kernel
theorem dX11_starvedMany_19 : decode cX11_starvedMany 19 = .ok (.ifCond .ge 7, 3) := by decide +kernel
theorem dX11_starvedMany_22 : decode cX11_starvedMany 22 = .ok (.iconst 1, 1) := by decide +kernel
theorem dX11_starvedMany_23 : decode cX11_starvedMany 23 = .ok (.goto 4, 3) := by decide +kernel
theorem dX11_starvedMany_26 : decode cX11_starvedMany 26 = .ok (.iconst 0, 1) := by decide +kernel
theorem dX11_starvedMany_27 : decode cX11_starvedMany 27 = .ok (.iadd, 1) := by decide +kernel
theorem dX11_starvedMany_28 : decode cX11_starvedMany 28 = .ok (.istore_n 1, 1) := by decide +kernel
theorem dX11_starvedMany_29 : decode cX11_starvedMany 29 = .ok (.iinc 2 1, 3) := by decide +kernel
theorem dX11_starvedMany_32 : decode cX11_starvedMany 32 = .ok (.goto (-28), 3) := by decide +kernel
theorem dX11_starvedMany_35 : decode cX11_starvedMany 35 = .ok (.iload_n 1, 1) := by decide +kernel
theorem dX11_starvedMany_36 : decode cX11_starvedMany 36 = .ok (.ireturn, 1) := by decide +kernel
theorem dX11_howMany_0 : decode cX11_howMany 0 = .ok (.iload_n 1, 1) := by decide +kernel
theorem dX11_howMany_1 : decode cX11_howMany 1 = .ok (.tableswitch 86 0 6 #[43, 48, 53, 58, 63, 76, 81], 43) := by decide +kernel
theorem dX11_howMany_44 : decode cX11_howMany 44 = .ok (.aload_n 0, 1) := by decide +kernel
theorem dX11_howMany_45 : decode cX11_howMany 45 = .ok (.getfield 134, 3) := by decide +kernel
theorem dX11_howMany_48 : decode cX11_howMany 48 = .ok (.ireturn, 1) := by decide +kernel
theorem dX11_howMany_49 : decode cX11_howMany 49 = .ok (.aload_n 0, 1) := by decide +kernel
theorem dX11_howMany_50 : decode cX11_howMany 50 = .ok (.getfield 124, 3) := by decide +kernel
theorem dX11_howMany_53 : decode cX11_howMany 53 = .ok (.ireturn, 1) := by decide +kernel
theorem dX11_howMany_54 : decode cX11_howMany 54 = .ok (.aload_n 0, 1) := by decide +kernel
theorem dX11_howMany_55 : decode cX11_howMany 55 = .ok (.invokevirtual 292, 3) := by decide +kernel
theorem dX11_howMany_58 : decode cX11_howMany 58 = .ok (.ireturn, 1) := by decide +kernel
theorem dX11_howMany_59 : decode cX11_howMany 59 = .ok (.aload_n 0, 1) := by decide +kernel
theorem dX11_howMany_60 : decode cX11_howMany 60 = .ok (.getfield 37, 3) := by decide +kernel
theorem dX11_howMany_63 : decode cX11_howMany 63 = .ok (.ireturn, 1) := by decide +kernel
theorem dX11_howMany_64 : decode cX11_howMany 64 = .ok (.aload_n 0, 1) := by decide +kernel
theorem dX11_howMany_65 : decode cX11_howMany 65 = .ok (.getfield 154, 3) := by decide +kernel
theorem dX11_howMany_68 : decode cX11_howMany 68 = .ok (.ifCond .eq 7, 3) := by decide +kernel
theorem dX11_howMany_71 : decode cX11_howMany 71 = .ok (.iconst 1, 1) := by decide +kernel
theorem dX11_howMany_72 : decode cX11_howMany 72 = .ok (.goto 4, 3) := by decide +kernel
theorem dX11_howMany_75 : decode cX11_howMany 75 = .ok (.iconst 0, 1) := by decide +kernel
theorem dX11_howMany_76 : decode cX11_howMany 76 = .ok (.ireturn, 1) := by decide +kernel
theorem dX11_howMany_77 : decode cX11_howMany 77 = .ok (.aload_n 0, 1) := by decide +kernel
theorem dX11_howMany_78 : decode cX11_howMany 78 = .ok (.invokevirtual 295, 3) := by decide +kernel
theorem dX11_howMany_81 : decode cX11_howMany 81 = .ok (.ireturn, 1) := by decide +kernel
theorem dX11_howMany_82 : decode cX11_howMany 82 = .ok (.aload_n 0, 1) := by decide +kernel
theorem dX11_howMany_83 : decode cX11_howMany 83 = .ok (.getfield 87, 3) := by decide +kernel
theorem dX11_howMany_86 : decode cX11_howMany 86 = .ok (.ireturn, 1) := by decide +kernel
theorem dX11_howMany_87 : decode cX11_howMany 87 = .ok (.bipush (-102), 2) := by decide +kernel
theorem dX11_howMany_89 : decode cX11_howMany 89 = .ok (.ireturn, 1) := by decide +kernel
theorem dX11_count_0 : decode cX11_count 0 = .ok (.aload_n 0, 1) := by decide +kernel
theorem dX11_count_1 : decode cX11_count 1 = .ok (.iload_n 1, 1) := by decide +kernel
theorem dX11_count_2 : decode cX11_count 2 = .ok (.invokevirtual 298, 3) := by decide +kernel
theorem dX11_count_5 : decode cX11_count 5 = .ok (.ireturn, 1) := by decide +kernel
theorem dX11_mix_0 : decode cX11_mix 0 = .ok (.aload_n 0, 1) := by decide +kernel
theorem dX11_mix_1 : decode cX11_mix 1 = .ok (.ldc2_w 301, 3) := by decide +kernel
theorem dX11_mix_4 : decode cX11_mix 4 = .ok (.aload_n 0, 1) := by decide +kernel
theorem dX11_mix_5 : decode cX11_mix 5 = .ok (.getfield 303, 3) := by decide +kernel
theorem dX11_mix_8 : decode cX11_mix 8 = .ok (.lmul, 1) := by decide +kernel
theorem dX11_mix_9 : decode cX11_mix 9 = .ok (.lload_n 1, 1) := by decide +kernel
theorem dX11_mix_10 : decode cX11_mix 10 = .ok (.ladd, 1) := by decide +kernel
theorem dX11_mix_11 : decode cX11_mix 11 = .ok (.putfield 303, 3) := by decide +kernel
theorem dX11_mix_14 : decode cX11_mix 14 = .ok (.return_, 1) := by decide +kernel
theorem dX11_mixVow_0 : decode cX11_mixVow 0 = .ok (.iconst 0, 1) := by decide +kernel
theorem dX11_mixVow_1 : decode cX11_mixVow 1 = .ok (.istore_n 2, 1) := by decide +kernel
theorem dX11_mixVow_2 : decode cX11_mixVow 2 = .ok (.iload_n 2, 1) := by decide +kernel
theorem dX11_mixVow_3 : decode cX11_mixVow 3 = .ok (.iconst 4, 1) := by decide +kernel
theorem dX11_mixVow_4 : decode cX11_mixVow 4 = .ok (.if_icmp .ge 20, 3) := by decide +kernel
theorem dX11_mixVow_7 : decode cX11_mixVow 7 = .ok (.aload_n 0, 1) := by decide +kernel
theorem dX11_mixVow_8 : decode cX11_mixVow 8 = .ok (.aload_n 0, 1) := by decide +kernel
theorem dX11_mixVow_9 : decode cX11_mixVow 9 = .ok (.iload_n 1, 1) := by decide +kernel
theorem dX11_mixVow_10 : decode cX11_mixVow 10 = .ok (.iload_n 2, 1) := by decide +kernel
theorem dX11_mixVow_11 : decode cX11_mixVow 11 = .ok (.invokevirtual 131, 3) := by decide +kernel
theorem dX11_mixVow_14 : decode cX11_mixVow 14 = .ok (.i2l, 1) := by decide +kernel
theorem dX11_mixVow_15 : decode cX11_mixVow 15 = .ok (.invokevirtual 307, 3) := by decide +kernel
theorem dX11_mixVow_18 : decode cX11_mixVow 18 = .ok (.iinc 2 1, 3) := by decide +kernel
theorem dX11_mixVow_21 : decode cX11_mixVow 21 = .ok (.goto (-19), 3) := by decide +kernel
theorem dX11_mixVow_24 : decode cX11_mixVow 24 = .ok (.aload_n 0, 1) := by decide +kernel
theorem dX11_mixVow_25 : decode cX11_mixVow 25 = .ok (.getfield 134, 3) := by decide +kernel
theorem dX11_mixVow_28 : decode cX11_mixVow 28 = .ok (.ifCond .le 43, 3) := by decide +kernel
theorem dX11_mixVow_31 : decode cX11_mixVow 31 = .ok (.aload_n 0, 1) := by decide +kernel
theorem dX11_mixVow_32 : decode cX11_mixVow 32 = .ok (.iload_n 1, 1) := by decide +kernel
theorem dX11_mixVow_33 : decode cX11_mixVow 33 = .ok (.iconst 0, 1) := by decide +kernel
theorem dX11_mixVow_34 : decode cX11_mixVow 34 = .ok (.iconst 0, 1) := by decide +kernel
theorem dX11_mixVow_35 : decode cX11_mixVow 35 = .ok (.invokevirtual 246, 3) := by decide +kernel
theorem dX11_mixVow_38 : decode cX11_mixVow 38 = .ok (.iconst 0, 1) := by decide +kernel
theorem dX11_mixVow_39 : decode cX11_mixVow 39 = .ok (.istore_n 2, 1) := by decide +kernel
theorem dX11_mixVow_40 : decode cX11_mixVow 40 = .ok (.iload_n 2, 1) := by decide +kernel
theorem dX11_mixVow_41 : decode cX11_mixVow 41 = .ok (.bipush 6, 2) := by decide +kernel
theorem dX11_mixVow_43 : decode cX11_mixVow 43 = .ok (.if_icmp .ge 19, 3) := by decide +kernel
theorem dX11_mixVow_46 : decode cX11_mixVow 46 = .ok (.aload_n 0, 1) := by decide +kernel
theorem dX11_mixVow_47 : decode cX11_mixVow 47 = .ok (.aload_n 0, 1) := by decide +kernel
theorem dX11_mixVow_48 : decode cX11_mixVow 48 = .ok (.iload_n 2, 1) := by decide +kernel
theorem dX11_mixVow_49 : decode cX11_mixVow 49 = .ok (.invokevirtual 250, 3) := by decide +kernel
theorem dX11_mixVow_52 : decode cX11_mixVow 52 = .ok (.i2l, 1) := by decide +kernel
theorem dX11_mixVow_53 : decode cX11_mixVow 53 = .ok (.invokevirtual 307, 3) := by decide +kernel
theorem dX11_mixVow_56 : decode cX11_mixVow 56 = .ok (.iinc 2 1, 3) := by decide +kernel
theorem dX11_mixVow_59 : decode cX11_mixVow 59 = .ok (.goto (-19), 3) := by decide +kernel
theorem dX11_mixVow_62 : decode cX11_mixVow 62 = .ok (.aload_n 0, 1) := by decide +kernel
theorem dX11_mixVow_63 : decode cX11_mixVow 63 = .ok (.aload_n 0, 1) := by decide +kernel
theorem dX11_mixVow_64 : decode cX11_mixVow 64 = .ok (.invokevirtual 253, 3) := by decide +kernel
theorem dX11_mixVow_67 : decode cX11_mixVow 67 = .ok (.i2l, 1) := by decide +kernel
theorem dX11_mixVow_68 : decode cX11_mixVow 68 = .ok (.invokevirtual 307, 3) := by decide +kernel
theorem dX11_mixVow_71 : decode cX11_mixVow 71 = .ok (.return_, 1) := by decide +kernel
theorem dX11_digest_0 : decode cX11_digest 0 = .ok (.aload_n 0, 1) := by decide +kernel
theorem dX11_digest_1 : decode cX11_digest 1 = .ok (.ldc2_w 311, 3) := by decide +kernel
theorem dX11_digest_4 : decode cX11_digest 4 = .ok (.putfield 303, 3) := by decide +kernel
theorem dX11_digest_7 : decode cX11_digest 7 = .ok (.iconst 0, 1) := by decide +kernel
theorem dX11_digest_8 : decode cX11_digest 8 = .ok (.istore_n 1, 1) := by decide +kernel
theorem dX11_digest_9 : decode cX11_digest 9 = .ok (.iload_n 1, 1) := by decide +kernel
theorem dX11_digest_10 : decode cX11_digest 10 = .ok (.aload_n 0, 1) := by decide +kernel
theorem dX11_digest_11 : decode cX11_digest 11 = .ok (.getfield 134, 3) := by decide +kernel
theorem dX11_digest_14 : decode cX11_digest 14 = .ok (.if_icmp .ge 34, 3) := by decide +kernel
theorem dX11_digest_17 : decode cX11_digest 17 = .ok (.iconst 0, 1) := by decide +kernel
theorem dX11_digest_18 : decode cX11_digest 18 = .ok (.istore_n 2, 1) := by decide +kernel
theorem dX11_digest_19 : decode cX11_digest 19 = .ok (.iload_n 2, 1) := by decide +kernel
theorem dX11_digest_20 : decode cX11_digest 20 = .ok (.bipush 7, 2) := by decide +kernel
theorem dX11_digest_22 : decode cX11_digest 22 = .ok (.if_icmp .ge 20, 3) := by decide +kernel
theorem dX11_digest_25 : decode cX11_digest 25 = .ok (.aload_n 0, 1) := by decide +kernel
theorem dX11_digest_26 : decode cX11_digest 26 = .ok (.aload_n 0, 1) := by decide +kernel
theorem dX11_digest_27 : decode cX11_digest 27 = .ok (.iload_n 1, 1) := by decide +kernel
theorem dX11_digest_28 : decode cX11_digest 28 = .ok (.iload_n 2, 1) := by decide +kernel
theorem dX11_digest_29 : decode cX11_digest 29 = .ok (.invokevirtual 144, 3) := by decide +kernel
theorem dX11_digest_32 : decode cX11_digest 32 = .ok (.i2l, 1) := by decide +kernel
theorem dX11_digest_33 : decode cX11_digest 33 = .ok (.invokevirtual 307, 3) := by decide +kernel
theorem dX11_digest_36 : decode cX11_digest 36 = .ok (.iinc 2 1, 3) := by decide +kernel
theorem dX11_digest_39 : decode cX11_digest 39 = .ok (.goto (-20), 3) := by decide +kernel
theorem dX11_digest_42 : decode cX11_digest 42 = .ok (.iinc 1 1, 3) := by decide +kernel
theorem dX11_digest_45 : decode cX11_digest 45 = .ok (.goto (-36), 3) := by decide +kernel
theorem dX11_digest_48 : decode cX11_digest 48 = .ok (.iconst 0, 1) := by decide +kernel
theorem dX11_digest_49 : decode cX11_digest 49 = .ok (.istore_n 1, 1) := by decide +kernel
theorem dX11_digest_50 : decode cX11_digest 50 = .ok (.iload_n 1, 1) := by decide +kernel
theorem dX11_digest_51 : decode cX11_digest 51 = .ok (.iconst 5, 1) := by decide +kernel
theorem dX11_digest_52 : decode cX11_digest 52 = .ok (.if_icmp .ge 20, 3) := by decide +kernel
theorem dX11_digest_55 : decode cX11_digest 55 = .ok (.aload_n 0, 1) := by decide +kernel
theorem dX11_digest_56 : decode cX11_digest 56 = .ok (.aload_n 0, 1) := by decide +kernel
theorem dX11_digest_57 : decode cX11_digest 57 = .ok (.getfield 34, 3) := by decide +kernel
theorem dX11_digest_60 : decode cX11_digest 60 = .ok (.iload_n 1, 1) := by decide +kernel
theorem dX11_digest_61 : decode cX11_digest 61 = .ok (.iaload, 1) := by decide +kernel
theorem dX11_digest_62 : decode cX11_digest 62 = .ok (.i2l, 1) := by decide +kernel
theorem dX11_digest_63 : decode cX11_digest 63 = .ok (.invokevirtual 307, 3) := by decide +kernel
theorem dX11_digest_66 : decode cX11_digest 66 = .ok (.iinc 1 1, 3) := by decide +kernel
theorem dX11_digest_69 : decode cX11_digest 69 = .ok (.goto (-19), 3) := by decide +kernel
theorem dX11_digest_72 : decode cX11_digest 72 = .ok (.iconst 0, 1) := by decide +kernel
theorem dX11_digest_73 : decode cX11_digest 73 = .ok (.istore_n 1, 1) := by decide +kernel
theorem dX11_digest_74 : decode cX11_digest 74 = .ok (.iload_n 1, 1) := by decide +kernel
theorem dX11_digest_75 : decode cX11_digest 75 = .ok (.aload_n 0, 1) := by decide +kernel
theorem dX11_digest_76 : decode cX11_digest 76 = .ok (.getfield 124, 3) := by decide +kernel
theorem dX11_digest_79 : decode cX11_digest 79 = .ok (.if_icmp .ge 14, 3) := by decide +kernel
theorem dX11_digest_82 : decode cX11_digest 82 = .ok (.aload_n 0, 1) := by decide +kernel
theorem dX11_digest_83 : decode cX11_digest 83 = .ok (.iload_n 1, 1) := by decide +kernel
theorem dX11_digest_84 : decode cX11_digest 84 = .ok (.invokevirtual 313, 3) := by decide +kernel
theorem dX11_digest_87 : decode cX11_digest 87 = .ok (.iinc 1 1, 3) := by decide +kernel
theorem dX11_digest_90 : decode cX11_digest 90 = .ok (.goto (-16), 3) := by decide +kernel
theorem dX11_digest_93 : decode cX11_digest 93 = .ok (.iconst 0, 1) := by decide +kernel
theorem dX11_digest_94 : decode cX11_digest 94 = .ok (.istore_n 1, 1) := by decide +kernel
theorem dX11_digest_95 : decode cX11_digest 95 = .ok (.iload_n 1, 1) := by decide +kernel
theorem dX11_digest_96 : decode cX11_digest 96 = .ok (.aload_n 0, 1) := by decide +kernel
theorem dX11_digest_97 : decode cX11_digest 97 = .ok (.getfield 87, 3) := by decide +kernel
theorem dX11_digest_100 : decode cX11_digest 100 = .ok (.if_icmp .ge 20, 3) := by decide +kernel
theorem dX11_digest_103 : decode cX11_digest 103 = .ok (.aload_n 0, 1) := by decide +kernel
theorem dX11_digest_104 : decode cX11_digest 104 = .ok (.aload_n 0, 1) := by decide +kernel
theorem dX11_digest_105 : decode cX11_digest 105 = .ok (.getfield 54, 3) := by decide +kernel
theorem dX11_digest_108 : decode cX11_digest 108 = .ok (.iload_n 1, 1) := by decide +kernel
theorem dX11_digest_109 : decode cX11_digest 109 = .ok (.baload, 1) := by decide +kernel
theorem dX11_digest_110 : decode cX11_digest 110 = .ok (.i2l, 1) := by decide +kernel
theorem dX11_digest_111 : decode cX11_digest 111 = .ok (.invokevirtual 307, 3) := by decide +kernel
theorem dX11_digest_114 : decode cX11_digest 114 = .ok (.iinc 1 1, 3) := by decide +kernel
theorem dX11_digest_117 : decode cX11_digest 117 = .ok (.goto (-22), 3) := by decide +kernel
theorem dX11_digest_120 : decode cX11_digest 120 = .ok (.iconst 0, 1) := by decide +kernel
theorem dX11_digest_121 : decode cX11_digest 121 = .ok (.istore_n 1, 1) := by decide +kernel
theorem dX11_digest_122 : decode cX11_digest 122 = .ok (.iload_n 1, 1) := by decide +kernel
theorem dX11_digest_123 : decode cX11_digest 123 = .ok (.bipush 7, 2) := by decide +kernel
theorem dX11_digest_125 : decode cX11_digest 125 = .ok (.if_icmp .ge 19, 3) := by decide +kernel
theorem dX11_digest_128 : decode cX11_digest 128 = .ok (.aload_n 0, 1) := by decide +kernel
theorem dX11_digest_129 : decode cX11_digest 129 = .ok (.aload_n 0, 1) := by decide +kernel
theorem dX11_digest_130 : decode cX11_digest 130 = .ok (.iload_n 1, 1) := by decide +kernel
theorem dX11_digest_131 : decode cX11_digest 131 = .ok (.invokevirtual 298, 3) := by decide +kernel
theorem dX11_digest_134 : decode cX11_digest 134 = .ok (.i2l, 1) := by decide +kernel
theorem dX11_digest_135 : decode cX11_digest 135 = .ok (.invokevirtual 307, 3) := by decide +kernel
theorem dX11_digest_138 : decode cX11_digest 138 = .ok (.iinc 1 1, 3) := by decide +kernel
theorem dX11_digest_141 : decode cX11_digest 141 = .ok (.goto (-19), 3) := by decide +kernel
theorem dX11_digest_144 : decode cX11_digest 144 = .ok (.aload_n 0, 1) := by decide +kernel
theorem dX11_digest_145 : decode cX11_digest 145 = .ok (.getfield 303, 3) := by decide +kernel
theorem dX11_digest_148 : decode cX11_digest 148 = .ok (.lreturn, 1) := by decide +kernel
end
section
theorem dX0_init_0 : decode cX0_init 0 = .ok (.aload_n 0, 1) := by decide +kernel
theorem dX0_init_1 : decode cX0_init 1 = .ok (.invokespecial 3, 3) := by decide +kernel
theorem dX0_init_4 : decode cX0_init 4 = .ok (.aload_n 0, 1) := by decide +kernel
theorem dX0_init_5 : decode cX0_init 5 = .ok (.bipush 10, 2) := by decide +kernel
theorem dX0_init_7 : decode cX0_init 7 = .ok (.bipush 10, 2) := by decide +kernel
theorem dX0_init_9 : decode cX0_init 9 = .ok (.multianewarray 9 2, 4) := by decide +kernel
theorem dX0_init_13 : decode cX0_init 13 = .ok (.putfield 11, 3) := by decide +kernel
theorem dX0_init_16 : decode cX0_init 16 = .ok (.aload_n 0, 1) := by decide +kernel
theorem dX0_init_17 : decode cX0_init 17 = .ok (.aload_n 1, 1) := by decide +kernel
theorem dX0_init_18 : decode cX0_init 18 = .ok (.putfield 16, 3) := by decide +kernel
theorem dX0_init_21 : decode cX0_init 21 = .ok (.aload_n 0, 1) := by decide +kernel
theorem dX0_init_22 : decode cX0_init 22 = .ok (.aload_n 2, 1) := by decide +kernel
theorem dX0_init_23 : decode cX0_init 23 = .ok (.putfield 20, 3) := by decide +kernel
theorem dX0_init_26 : decode cX0_init 26 = .ok (.return_, 1) := by decide +kernel
theorem dX0_startAdvised_0 : decode cX0_startAdvised 0 = .ok (.iconst 0, 1) := by decide +kernel
theorem dX0_startAdvised_1 : decode cX0_startAdvised 1 = .ok (.istore_n 3, 1) := by decide +kernel
theorem dX0_startAdvised_2 : decode cX0_startAdvised 2 = .ok (.aload_n 0, 1) := by decide +kernel
theorem dX0_startAdvised_3 : decode cX0_startAdvised 3 = .ok (.getfield 16, 3) := by decide +kernel
theorem dX0_startAdvised_6 : decode cX0_startAdvised 6 = .ok (.aload_n 1, 1) := by decide +kernel
theorem dX0_startAdvised_7 : decode cX0_startAdvised 7 = .ok (.aload_n 2, 1) := by decide +kernel
theorem dX0_startAdvised_8 : decode cX0_startAdvised 8 = .ok (.aload_n 2, 1) := by decide +kernel
theorem dX0_startAdvised_9 : decode cX0_startAdvised 9 = .ok (.getfield 24, 3) := by decide +kernel
theorem dX0_startAdvised_12 : decode cX0_startAdvised 12 = .ok (.iconst 0, 1) := by decide +kernel
theorem dX0_startAdvised_13 : decode cX0_startAdvised 13 = .ok (.invokevirtual 30, 3) := by decide +kernel
theorem dX0_startAdvised_16 : decode cX0_startAdvised 16 = .ok (.istore 4, 2) := by decide +kernel
theorem dX0_startAdvised_18 : decode cX0_startAdvised 18 = .ok (.iconst 1, 1) := by decide +kernel
theorem dX0_startAdvised_19 : decode cX0_startAdvised 19 = .ok (.istore 5, 2) := by decide +kernel
theorem dX0_startAdvised_21 : decode cX0_startAdvised 21 = .ok (.iload 5, 2) := by decide +kernel
theorem dX0_startAdvised_23 : decode cX0_startAdvised 23 = .ok (.aload_n 1, 1) := by decide +kernel
theorem dX0_startAdvised_24 : decode cX0_startAdvised 24 = .ok (.getfield 36, 3) := by decide +kernel
theorem dX0_startAdvised_27 : decode cX0_startAdvised 27 = .ok (.invokevirtual 42, 3) := by decide +kernel
theorem dX0_startAdvised_30 : decode cX0_startAdvised 30 = .ok (.if_icmp .ge 40, 3) := by decide +kernel
theorem dX0_startAdvised_33 : decode cX0_startAdvised 33 = .ok (.aload_n 0, 1) := by decide +kernel
theorem dX0_startAdvised_34 : decode cX0_startAdvised 34 = .ok (.getfield 16, 3) := by decide +kernel
theorem dX0_startAdvised_37 : decode cX0_startAdvised 37 = .ok (.aload_n 1, 1) := by decide +kernel
theorem dX0_startAdvised_38 : decode cX0_startAdvised 38 = .ok (.aload_n 2, 1) := by decide +kernel
theorem dX0_startAdvised_39 : decode cX0_startAdvised 39 = .ok (.aload_n 2, 1) := by decide +kernel
theorem dX0_startAdvised_40 : decode cX0_startAdvised 40 = .ok (.getfield 24, 3) := by decide +kernel
theorem dX0_startAdvised_43 : decode cX0_startAdvised 43 = .ok (.iload 5, 2) := by decide +kernel
theorem dX0_startAdvised_45 : decode cX0_startAdvised 45 = .ok (.invokevirtual 30, 3) := by decide +kernel
theorem dX0_startAdvised_48 : decode cX0_startAdvised 48 = .ok (.istore 6, 2) := by decide +kernel
theorem dX0_startAdvised_50 : decode cX0_startAdvised 50 = .ok (.iload 6, 2) := by decide +kernel
theorem dX0_startAdvised_52 : decode cX0_startAdvised 52 = .ok (.iload 4, 2) := by decide +kernel
theorem dX0_startAdvised_54 : decode cX0_startAdvised 54 = .ok (.if_icmp .le 10, 3) := by decide +kernel
theorem dX0_startAdvised_57 : decode cX0_startAdvised 57 = .ok (.iload 6, 2) := by decide +kernel
theorem dX0_startAdvised_59 : decode cX0_startAdvised 59 = .ok (.istore 4, 2) := by decide +kernel
theorem dX0_startAdvised_61 : decode cX0_startAdvised 61 = .ok (.iload 5, 2) := by decide +kernel
theorem dX0_startAdvised_63 : decode cX0_startAdvised 63 = .ok (.istore_n 3, 1) := by decide +kernel
theorem dX0_startAdvised_64 : decode cX0_startAdvised 64 = .ok (.iinc 5 1, 3) := by decide +kernel
theorem dX0_startAdvised_67 : decode cX0_startAdvised 67 = .ok (.goto (-46), 3) := by decide +kernel
theorem dX0_startAdvised_70 : decode cX0_startAdvised 70 = .ok (.iload_n 3, 1) := by decide +kernel
theorem dX0_startAdvised_71 : decode cX0_startAdvised 71 = .ok (.ireturn, 1) := by decide +kernel
theorem dX0_swapAdvised_0 : decode cX0_swapAdvised 0 = .ok (.aload_n 1, 1) := by decide +kernel
theorem dX0_swapAdvised_1 : decode cX0_swapAdvised 1 = .ok (.getfield 36, 3) := by decide +kernel
theorem dX0_swapAdvised_4 : decode cX0_swapAdvised 4 = .ok (.invokevirtual 42, 3) := by decide +kernel
theorem dX0_swapAdvised_7 : decode cX0_swapAdvised 7 = .ok (.istore 4, 2) := by decide +kernel
theorem dX0_swapAdvised_9 : decode cX0_swapAdvised 9 = .ok (.iconst (-1), 1) := by decide +kernel
theorem dX0_swapAdvised_10 : decode cX0_swapAdvised 10 = .ok (.istore 5, 2) := by decide +kernel
theorem dX0_swapAdvised_12 : decode cX0_swapAdvised 12 = .ok (.aload_n 0, 1) := by decide +kernel
theorem dX0_swapAdvised_13 : decode cX0_swapAdvised 13 = .ok (.getfield 16, 3) := by decide +kernel
theorem dX0_swapAdvised_16 : decode cX0_swapAdvised 16 = .ok (.aload_n 1, 1) := by decide +kernel
theorem dX0_swapAdvised_17 : decode cX0_swapAdvised 17 = .ok (.aload_n 2, 1) := by decide +kernel
theorem dX0_swapAdvised_18 : decode cX0_swapAdvised 18 = .ok (.aload_n 2, 1) := by decide +kernel
theorem dX0_swapAdvised_19 : decode cX0_swapAdvised 19 = .ok (.getfield 24, 3) := by decide +kernel
theorem dX0_swapAdvised_22 : decode cX0_swapAdvised 22 = .ok (.iload_n 3, 1) := by decide +kernel
theorem dX0_swapAdvised_23 : decode cX0_swapAdvised 23 = .ok (.invokevirtual 30, 3) := by decide +kernel
theorem dX0_swapAdvised_26 : decode cX0_swapAdvised 26 = .ok (.istore 6, 2) := by decide +kernel
theorem dX0_swapAdvised_28 : decode cX0_swapAdvised 28 = .ok (.aload_n 0, 1) := by decide +kernel
theorem dX0_swapAdvised_29 : decode cX0_swapAdvised 29 = .ok (.getfield 20, 3) := by decide +kernel
theorem dX0_swapAdvised_32 : decode cX0_swapAdvised 32 = .ok (.aload_n 1, 1) := by decide +kernel
theorem dX0_swapAdvised_33 : decode cX0_swapAdvised 33 = .ok (.iload 4, 2) := by decide +kernel
theorem dX0_swapAdvised_35 : decode cX0_swapAdvised 35 = .ok (.invokevirtual 48, 3) := by decide +kernel
theorem dX0_swapAdvised_38 : decode cX0_swapAdvised 38 = .ok (.iconst 0, 1) := by decide +kernel
theorem dX0_swapAdvised_39 : decode cX0_swapAdvised 39 = .ok (.istore 7, 2) := by decide +kernel
theorem dX0_swapAdvised_41 : decode cX0_swapAdvised 41 = .ok (.iload 7, 2) := by decide +kernel
theorem dX0_swapAdvised_43 : decode cX0_swapAdvised 43 = .ok (.iload 4, 2) := by decide +kernel
theorem dX0_swapAdvised_45 : decode cX0_swapAdvised 45 = .ok (.if_icmp .ge 90, 3) := by decide +kernel
theorem dX0_swapAdvised_48 : decode cX0_swapAdvised 48 = .ok (.iload 7, 2) := by decide +kernel
theorem dX0_swapAdvised_50 : decode cX0_swapAdvised 50 = .ok (.iconst 1, 1) := by decide +kernel
theorem dX0_swapAdvised_51 : decode cX0_swapAdvised 51 = .ok (.iadd, 1) := by decide +kernel
theorem dX0_swapAdvised_52 : decode cX0_swapAdvised 52 = .ok (.istore 8, 2) := by decide +kernel
theorem dX0_swapAdvised_54 : decode cX0_swapAdvised 54 = .ok (.iload 8, 2) := by decide +kernel
theorem dX0_swapAdvised_56 : decode cX0_swapAdvised 56 = .ok (.iload 4, 2) := by decide +kernel
theorem dX0_swapAdvised_58 : decode cX0_swapAdvised 58 = .ok (.if_icmp .ge 71, 3) := by decide +kernel
theorem dX0_swapAdvised_61 : decode cX0_swapAdvised 61 = .ok (.aload_n 0, 1) := by decide +kernel
theorem dX0_swapAdvised_62 : decode cX0_swapAdvised 62 = .ok (.getfield 20, 3) := by decide +kernel
theorem dX0_swapAdvised_65 : decode cX0_swapAdvised 65 = .ok (.iload 7, 2) := by decide +kernel
theorem dX0_swapAdvised_67 : decode cX0_swapAdvised 67 = .ok (.iload 8, 2) := by decide +kernel
theorem dX0_swapAdvised_69 : decode cX0_swapAdvised 69 = .ok (.invokevirtual 52, 3) := by decide +kernel
theorem dX0_swapAdvised_72 : decode cX0_swapAdvised 72 = .ok (.aload_n 0, 1) := by decide +kernel
theorem dX0_swapAdvised_73 : decode cX0_swapAdvised 73 = .ok (.getfield 16, 3) := by decide +kernel
theorem dX0_swapAdvised_76 : decode cX0_swapAdvised 76 = .ok (.aload_n 0, 1) := by decide +kernel
theorem dX0_swapAdvised_77 : decode cX0_swapAdvised 77 = .ok (.getfield 20, 3) := by decide +kernel
theorem dX0_swapAdvised_80 : decode cX0_swapAdvised 80 = .ok (.aload_n 2, 1) := by decide +kernel
theorem dX0_swapAdvised_81 : decode cX0_swapAdvised 81 = .ok (.aload_n 2, 1) := by decide +kernel
theorem dX0_swapAdvised_82 : decode cX0_swapAdvised 82 = .ok (.getfield 24, 3) := by decide +kernel
theorem dX0_swapAdvised_85 : decode cX0_swapAdvised 85 = .ok (.iload_n 3, 1) := by decide +kernel
theorem dX0_swapAdvised_86 : decode cX0_swapAdvised 86 = .ok (.invokevirtual 30, 3) := by decide +kernel
theorem dX0_swapAdvised_89 : decode cX0_swapAdvised 89 = .ok (.istore 9, 2) := by decide +kernel
theorem dX0_swapAdvised_91 : decode cX0_swapAdvised 91 = .ok (.aload_n 0, 1) := by decide +kernel
theorem dX0_swapAdvised_92 : decode cX0_swapAdvised 92 = .ok (.getfield 20, 3) := by decide +kernel
theorem dX0_swapAdvised_95 : decode cX0_swapAdvised 95 = .ok (.iload 7, 2) := by decide +kernel
theorem dX0_swapAdvised_97 : decode cX0_swapAdvised 97 = .ok (.iload 8, 2) := by decide +kernel
theorem dX0_swapAdvised_99 : decode cX0_swapAdvised 99 = .ok (.invokevirtual 52, 3) := by decide +kernel
theorem dX0_swapAdvised_102 : decode cX0_swapAdvised 102 = .ok (.iload 9, 2) := by decide +kernel
theorem dX0_swapAdvised_104 : decode cX0_swapAdvised 104 = .ok (.iload 6, 2) := by decide +kernel
theorem dX0_swapAdvised_106 : decode cX0_swapAdvised 106 = .ok (.if_icmp .le 17, 3) := by decide +kernel
theorem dX0_swapAdvised_109 : decode cX0_swapAdvised 109 = .ok (.iload 9, 2) := by decide +kernel
theorem dX0_swapAdvised_111 : decode cX0_swapAdvised 111 = .ok (.istore 6, 2) := by decide +kernel
theorem dX0_swapAdvised_113 : decode cX0_swapAdvised 113 = .ok (.bipush 16, 2) := by decide +kernel
theorem dX0_swapAdvised_115 : decode cX0_swapAdvised 115 = .ok (.iload 7, 2) := by decide +kernel
theorem dX0_swapAdvised_117 : decode cX0_swapAdvised 117 = .ok (.imul, 1) := by decide +kernel
theorem dX0_swapAdvised_118 : decode cX0_swapAdvised 118 = .ok (.iload 8, 2) := by decide +kernel
theorem dX0_swapAdvised_120 : decode cX0_swapAdvised 120 = .ok (.iadd, 1) := by decide +kernel
theorem dX0_swapAdvised_121 : decode cX0_swapAdvised 121 = .ok (.istore 5, 2) := by decide +kernel
theorem dX0_swapAdvised_123 : decode cX0_swapAdvised 123 = .ok (.iinc 8 1, 3) := by decide +kernel
theorem dX0_swapAdvised_126 : decode cX0_swapAdvised 126 = .ok (.goto (-72), 3) := by decide +kernel
theorem dX0_swapAdvised_129 : decode cX0_swapAdvised 129 = .ok (.iinc 7 1, 3) := by decide +kernel
theorem dX0_swapAdvised_132 : decode cX0_swapAdvised 132 = .ok (.goto (-91), 3) := by decide +kernel
theorem dX0_swapAdvised_135 : decode cX0_swapAdvised 135 = .ok (.iload 5, 2) := by decide +kernel
theorem dX0_swapAdvised_137 : decode cX0_swapAdvised 137 = .ok (.ireturn, 1) := by decide +kernel
theorem dX0_stirAdvised_0 : decode cX0_stirAdvised 0 = .ok (.iconst 0, 1) := by decide +kernel
theorem dX0_stirAdvised_1 : decode cX0_stirAdvised 1 = .ok (.istore 4, 2) := by decide +kernel
theorem dX0_stirAdvised_3 : decode cX0_stirAdvised 3 = .ok (.aload_n 0, 1) := by decide +kernel
theorem dX0_stirAdvised_4 : decode cX0_stirAdvised 4 = .ok (.getfield 16, 3) := by decide +kernel
theorem dX0_stirAdvised_7 : decode cX0_stirAdvised 7 = .ok (.aload_n 1, 1) := by decide +kernel
theorem dX0_stirAdvised_8 : decode cX0_stirAdvised 8 = .ok (.aload_n 2, 1) := by decide +kernel
theorem dX0_stirAdvised_9 : decode cX0_stirAdvised 9 = .ok (.iconst 0, 1) := by decide +kernel
theorem dX0_stirAdvised_10 : decode cX0_stirAdvised 10 = .ok (.iload_n 3, 1) := by decide +kernel
theorem dX0_stirAdvised_11 : decode cX0_stirAdvised 11 = .ok (.invokevirtual 30, 3) := by decide +kernel
theorem dX0_stirAdvised_14 : decode cX0_stirAdvised 14 = .ok (.istore 5, 2) := by decide +kernel
theorem dX0_stirAdvised_16 : decode cX0_stirAdvised 16 = .ok (.iconst 1, 1) := by decide +kernel
theorem dX0_stirAdvised_17 : decode cX0_stirAdvised 17 = .ok (.istore 6, 2) := by decide +kernel
theorem dX0_stirAdvised_19 : decode cX0_stirAdvised 19 = .ok (.iload 6, 2) := by decide +kernel
theorem dX0_stirAdvised_21 : decode cX0_stirAdvised 21 = .ok (.bipush 9, 2) := by decide +kernel
theorem dX0_stirAdvised_23 : decode cX0_stirAdvised 23 = .ok (.if_icmp .gt 38, 3) := by decide +kernel
theorem dX0_stirAdvised_26 : decode cX0_stirAdvised 26 = .ok (.aload_n 0, 1) := by decide +kernel
theorem dX0_stirAdvised_27 : decode cX0_stirAdvised 27 = .ok (.getfield 16, 3) := by decide +kernel
theorem dX0_stirAdvised_30 : decode cX0_stirAdvised 30 = .ok (.aload_n 1, 1) := by decide +kernel
theorem dX0_stirAdvised_31 : decode cX0_stirAdvised 31 = .ok (.aload_n 2, 1) := by decide +kernel
theorem dX0_stirAdvised_32 : decode cX0_stirAdvised 32 = .ok (.iload 6, 2) := by decide +kernel
theorem dX0_stirAdvised_34 : decode cX0_stirAdvised 34 = .ok (.iload_n 3, 1) := by decide +kernel
theorem dX0_stirAdvised_35 : decode cX0_stirAdvised 35 = .ok (.invokevirtual 30, 3) := by decide +kernel
theorem dX0_stirAdvised_38 : decode cX0_stirAdvised 38 = .ok (.istore 7, 2) := by decide +kernel
theorem dX0_stirAdvised_40 : decode cX0_stirAdvised 40 = .ok (.iload 7, 2) := by decide +kernel
theorem dX0_stirAdvised_42 : decode cX0_stirAdvised 42 = .ok (.iload 5, 2) := by decide +kernel
theorem dX0_stirAdvised_44 : decode cX0_stirAdvised 44 = .ok (.if_icmp .le 11, 3) := by decide +kernel
theorem dX0_stirAdvised_47 : decode cX0_stirAdvised 47 = .ok (.iload 7, 2) := by decide +kernel
theorem dX0_stirAdvised_49 : decode cX0_stirAdvised 49 = .ok (.istore 5, 2) := by decide +kernel
theorem dX0_stirAdvised_51 : decode cX0_stirAdvised 51 = .ok (.iload 6, 2) := by decide +kernel
theorem dX0_stirAdvised_53 : decode cX0_stirAdvised 53 = .ok (.istore 4, 2) := by decide +kernel
theorem dX0_stirAdvised_55 : decode cX0_stirAdvised 55 = .ok (.iinc 6 1, 3) := by decide +kernel
theorem dX0_stirAdvised_58 : decode cX0_stirAdvised 58 = .ok (.goto (-39), 3) := by decide +kernel
theorem dX0_stirAdvised_61 : decode cX0_stirAdvised 61 = .ok (.iload 4, 2) := by decide +kernel
theorem dX0_stirAdvised_63 : decode cX0_stirAdvised 63 = .ok (.ireturn, 1) := by decide +kernel
theorem dX0_dayOfLoss_0 : decode cX0_dayOfLoss 0 = .ok (.aload_n 1, 1) := by decide +kernel
theorem dX0_dayOfLoss_1 : decode cX0_dayOfLoss 1 = .ok (.getfield 36, 3) := by decide +kernel
theorem dX0_dayOfLoss_4 : decode cX0_dayOfLoss 4 = .ok (.invokevirtual 42, 3) := by decide +kernel
theorem dX0_dayOfLoss_7 : decode cX0_dayOfLoss 7 = .ok (.istore 7, 2) := by decide +kernel
theorem dX0_dayOfLoss_9 : decode cX0_dayOfLoss 9 = .ok (.aload_n 0, 1) := by decide +kernel
theorem dX0_dayOfLoss_10 : decode cX0_dayOfLoss 10 = .ok (.getfield 20, 3) := by decide +kernel
theorem dX0_dayOfLoss_13 : decode cX0_dayOfLoss 13 = .ok (.aload_n 1, 1) := by decide +kernel
theorem dX0_dayOfLoss_14 : decode cX0_dayOfLoss 14 = .ok (.iload 7, 2) := by decide +kernel
theorem dX0_dayOfLoss_16 : decode cX0_dayOfLoss 16 = .ok (.invokevirtual 48, 3) := by decide +kernel
theorem dX0_dayOfLoss_19 : decode cX0_dayOfLoss 19 = .ok (.iload_n 3, 1) := by decide +kernel
theorem dX0_dayOfLoss_20 : decode cX0_dayOfLoss 20 = .ok (.istore 8, 2) := by decide +kernel
theorem dX0_dayOfLoss_22 : decode cX0_dayOfLoss 22 = .ok (.iconst 0, 1) := by decide +kernel
theorem dX0_dayOfLoss_23 : decode cX0_dayOfLoss 23 = .ok (.istore 9, 2) := by decide +kernel
theorem dX0_dayOfLoss_25 : decode cX0_dayOfLoss 25 = .ok (.iconst 0, 1) := by decide +kernel
theorem dX0_dayOfLoss_26 : decode cX0_dayOfLoss 26 = .ok (.istore 10, 2) := by decide +kernel
theorem dX0_dayOfLoss_28 : decode cX0_dayOfLoss 28 = .ok (.iload 10, 2) := by decide +kernel
theorem dX0_dayOfLoss_30 : decode cX0_dayOfLoss 30 = .ok (.iload 5, 2) := by decide +kernel
theorem dX0_dayOfLoss_32 : decode cX0_dayOfLoss 32 = .ok (.if_icmp .ge 129, 3) := by decide +kernel
theorem dX0_dayOfLoss_35 : decode cX0_dayOfLoss 35 = .ok (.iload 7, 2) := by decide +kernel
theorem dX0_dayOfLoss_37 : decode cX0_dayOfLoss 37 = .ok (.ifCond .le 124, 3) := by decide +kernel
theorem dX0_dayOfLoss_40 : decode cX0_dayOfLoss 40 = .ok (.aload_n 0, 1) := by decide +kernel
theorem dX0_dayOfLoss_41 : decode cX0_dayOfLoss 41 = .ok (.getfield 11, 3) := by decide +kernel
theorem dX0_dayOfLoss_44 : decode cX0_dayOfLoss 44 = .ok (.iload 10, 2) := by decide +kernel
theorem dX0_dayOfLoss_46 : decode cX0_dayOfLoss 46 = .ok (.iload 7, 2) := by decide +kernel
theorem dX0_dayOfLoss_48 : decode cX0_dayOfLoss 48 = .ok (.irem, 1) := by decide +kernel
theorem dX0_dayOfLoss_49 : decode cX0_dayOfLoss 49 = .ok (.aaload, 1) := by decide +kernel
theorem dX0_dayOfLoss_50 : decode cX0_dayOfLoss 50 = .ok (.astore 11, 2) := by decide +kernel
theorem dX0_dayOfLoss_52 : decode cX0_dayOfLoss 52 = .ok (.iload 10, 2) := by decide +kernel
theorem dX0_dayOfLoss_54 : decode cX0_dayOfLoss 54 = .ok (.iload 9, 2) := by decide +kernel
theorem dX0_dayOfLoss_56 : decode cX0_dayOfLoss 56 = .ok (.isub, 1) := by decide +kernel
theorem dX0_dayOfLoss_57 : decode cX0_dayOfLoss 57 = .ok (.iload 7, 2) := by decide +kernel
theorem dX0_dayOfLoss_59 : decode cX0_dayOfLoss 59 = .ok (.if_icmp .ge 41, 3) := by decide +kernel
theorem dX0_dayOfLoss_62 : decode cX0_dayOfLoss 62 = .ok (.aload_n 0, 1) := by decide +kernel
theorem dX0_dayOfLoss_63 : decode cX0_dayOfLoss 63 = .ok (.getfield 16, 3) := by decide +kernel
theorem dX0_dayOfLoss_66 : decode cX0_dayOfLoss 66 = .ok (.aload_n 0, 1) := by decide +kernel
theorem dX0_dayOfLoss_67 : decode cX0_dayOfLoss 67 = .ok (.getfield 20, 3) := by decide +kernel
theorem dX0_dayOfLoss_70 : decode cX0_dayOfLoss 70 = .ok (.aload_n 2, 1) := by decide +kernel
theorem dX0_dayOfLoss_71 : decode cX0_dayOfLoss 71 = .ok (.iload 8, 2) := by decide +kernel
theorem dX0_dayOfLoss_73 : decode cX0_dayOfLoss 73 = .ok (.aload_n 0, 1) := by decide +kernel
theorem dX0_dayOfLoss_74 : decode cX0_dayOfLoss 74 = .ok (.iload 10, 2) := by decide +kernel
theorem dX0_dayOfLoss_76 : decode cX0_dayOfLoss 76 = .ok (.iload 4, 2) := by decide +kernel
theorem dX0_dayOfLoss_78 : decode cX0_dayOfLoss 78 = .ok (.invokevirtual 56, 3) := by decide +kernel
theorem dX0_dayOfLoss_81 : decode cX0_dayOfLoss 81 = .ok (.invokevirtual 60, 3) := by decide +kernel
theorem dX0_dayOfLoss_84 : decode cX0_dayOfLoss 84 = .ok (.aload_n 0, 1) := by decide +kernel
theorem dX0_dayOfLoss_85 : decode cX0_dayOfLoss 85 = .ok (.getfield 16, 3) := by decide +kernel
theorem dX0_dayOfLoss_88 : decode cX0_dayOfLoss 88 = .ok (.getfield 64, 3) := by decide +kernel
theorem dX0_dayOfLoss_91 : decode cX0_dayOfLoss 91 = .ok (.iconst 0, 1) := by decide +kernel
theorem dX0_dayOfLoss_92 : decode cX0_dayOfLoss 92 = .ok (.aload 11, 2) := by decide +kernel
theorem dX0_dayOfLoss_94 : decode cX0_dayOfLoss 94 = .ok (.iconst 0, 1) := by decide +kernel
theorem dX0_dayOfLoss_95 : decode cX0_dayOfLoss 95 = .ok (.bipush 10, 2) := by decide +kernel
theorem dX0_dayOfLoss_97 : decode cX0_dayOfLoss 97 = .ok (.invokestatic 68, 3) := by decide +kernel
theorem dX0_dayOfLoss_100 : decode cX0_dayOfLoss 100 = .ok (.aload_n 0, 1) := by decide +kernel
theorem dX0_dayOfLoss_101 : decode cX0_dayOfLoss 101 = .ok (.getfield 20, 3) := by decide +kernel
theorem dX0_dayOfLoss_104 : decode cX0_dayOfLoss 104 = .ok (.aload 11, 2) := by decide +kernel
theorem dX0_dayOfLoss_106 : decode cX0_dayOfLoss 106 = .ok (.invokevirtual 74, 3) := by decide +kernel
theorem dX0_dayOfLoss_109 : decode cX0_dayOfLoss 109 = .ok (.istore 12, 2) := by decide +kernel
theorem dX0_dayOfLoss_111 : decode cX0_dayOfLoss 111 = .ok (.iload 12, 2) := by decide +kernel
theorem dX0_dayOfLoss_113 : decode cX0_dayOfLoss 113 = .ok (.iload 6, 2) := by decide +kernel
theorem dX0_dayOfLoss_115 : decode cX0_dayOfLoss 115 = .ok (.iand, 1) := by decide +kernel
theorem dX0_dayOfLoss_116 : decode cX0_dayOfLoss 116 = .ok (.ifCond .eq 8, 3) := by decide +kernel
theorem dX0_dayOfLoss_119 : decode cX0_dayOfLoss 119 = .ok (.iload 10, 2) := by decide +kernel
theorem dX0_dayOfLoss_121 : decode cX0_dayOfLoss 121 = .ok (.iconst 1, 1) := by decide +kernel
theorem dX0_dayOfLoss_122 : decode cX0_dayOfLoss 122 = .ok (.iadd, 1) := by decide +kernel
theorem dX0_dayOfLoss_123 : decode cX0_dayOfLoss 123 = .ok (.ireturn, 1) := by decide +kernel
theorem dX0_dayOfLoss_124 : decode cX0_dayOfLoss 124 = .ok (.iload 12, 2) := by decide +kernel
theorem dX0_dayOfLoss_126 : decode cX0_dayOfLoss 126 = .ok (.ifCond .eq 10, 3) := by decide +kernel
theorem dX0_dayOfLoss_129 : decode cX0_dayOfLoss 129 = .ok (.iload 10, 2) := by decide +kernel
theorem dX0_dayOfLoss_131 : decode cX0_dayOfLoss 131 = .ok (.iconst 1, 1) := by decide +kernel
theorem dX0_dayOfLoss_132 : decode cX0_dayOfLoss 132 = .ok (.iadd, 1) := by decide +kernel
theorem dX0_dayOfLoss_133 : decode cX0_dayOfLoss 133 = .ok (.goto 5, 3) := by decide +kernel
theorem dX0_dayOfLoss_136 : decode cX0_dayOfLoss 136 = .ok (.iload 9, 2) := by decide +kernel
theorem dX0_dayOfLoss_138 : decode cX0_dayOfLoss 138 = .ok (.istore 9, 2) := by decide +kernel
theorem dX0_dayOfLoss_140 : decode cX0_dayOfLoss 140 = .ok (.aload_n 0, 1) := by decide +kernel
theorem dX0_dayOfLoss_141 : decode cX0_dayOfLoss 141 = .ok (.getfield 20, 3) := by decide +kernel
theorem dX0_dayOfLoss_144 : decode cX0_dayOfLoss 144 = .ok (.iload 8, 2) := by decide +kernel
theorem dX0_dayOfLoss_146 : decode cX0_dayOfLoss 146 = .ok (.aload_n 2, 1) := by decide +kernel
theorem dX0_dayOfLoss_147 : decode cX0_dayOfLoss 147 = .ok (.getfield 78, 3) := by decide +kernel
theorem dX0_dayOfLoss_150 : decode cX0_dayOfLoss 150 = .ok (.invokevirtual 82, 3) := by decide +kernel
theorem dX0_dayOfLoss_153 : decode cX0_dayOfLoss 153 = .ok (.istore 8, 2) := by decide +kernel
theorem dX0_dayOfLoss_155 : decode cX0_dayOfLoss 155 = .ok (.iinc 10 1, 3) := by decide +kernel
theorem dX0_dayOfLoss_158 : decode cX0_dayOfLoss 158 = .ok (.goto (-130), 3) := by decide +kernel
theorem dX0_dayOfLoss_161 : decode cX0_dayOfLoss 161 = .ok (.iconst (-1), 1) := by decide +kernel
theorem dX0_dayOfLoss_162 : decode cX0_dayOfLoss 162 = .ok (.ireturn, 1) := by decide +kernel
theorem dX0_fastersOf_0 : decode cX0_fastersOf 0 = .ok (.aload_n 0, 1) := by decide +kernel
theorem dX0_fastersOf_1 : decode cX0_fastersOf 1 = .ok (.getfield 20, 3) := by decide +kernel
theorem dX0_fastersOf_4 : decode cX0_fastersOf 4 = .ok (.getfield 36, 3) := by decide +kernel
theorem dX0_fastersOf_7 : decode cX0_fastersOf 7 = .ok (.invokevirtual 42, 3) := by decide +kernel
theorem dX0_fastersOf_10 : decode cX0_fastersOf 10 = .ok (.istore_n 3, 1) := by decide +kernel
theorem dX0_fastersOf_11 : decode cX0_fastersOf 11 = .ok (.iconst 0, 1) := by decide +kernel
theorem dX0_fastersOf_12 : decode cX0_fastersOf 12 = .ok (.istore 4, 2) := by decide +kernel
theorem dX0_fastersOf_14 : decode cX0_fastersOf 14 = .ok (.iconst 0, 1) := by decide +kernel
theorem dX0_fastersOf_15 : decode cX0_fastersOf 15 = .ok (.istore 5, 2) := by decide +kernel
theorem dX0_fastersOf_17 : decode cX0_fastersOf 17 = .ok (.iload 5, 2) := by decide +kernel
theorem dX0_fastersOf_19 : decode cX0_fastersOf 19 = .ok (.iload_n 2, 1) := by decide +kernel
theorem dX0_fastersOf_20 : decode cX0_fastersOf 20 = .ok (.if_icmp .ge 36, 3) := by decide +kernel
theorem dX0_fastersOf_23 : decode cX0_fastersOf 23 = .ok (.iload_n 3, 1) := by decide +kernel
theorem dX0_fastersOf_24 : decode cX0_fastersOf 24 = .ok (.ifCond .le 32, 3) := by decide +kernel
theorem dX0_fastersOf_27 : decode cX0_fastersOf 27 = .ok (.iload 4, 2) := by decide +kernel
theorem dX0_fastersOf_29 : decode cX0_fastersOf 29 = .ok (.iconst 1, 1) := by decide +kernel
theorem dX0_fastersOf_30 : decode cX0_fastersOf 30 = .ok (.aload_n 0, 1) := by decide +kernel
theorem dX0_fastersOf_31 : decode cX0_fastersOf 31 = .ok (.getfield 20, 3) := by decide +kernel
theorem dX0_fastersOf_34 : decode cX0_fastersOf 34 = .ok (.getfield 86, 3) := by decide +kernel
theorem dX0_fastersOf_37 : decode cX0_fastersOf 37 = .ok (.iload_n 1, 1) := by decide +kernel
theorem dX0_fastersOf_38 : decode cX0_fastersOf 38 = .ok (.iload_n 2, 1) := by decide +kernel
theorem dX0_fastersOf_39 : decode cX0_fastersOf 39 = .ok (.imul, 1) := by decide +kernel
theorem dX0_fastersOf_40 : decode cX0_fastersOf 40 = .ok (.iload 5, 2) := by decide +kernel
theorem dX0_fastersOf_42 : decode cX0_fastersOf 42 = .ok (.iadd, 1) := by decide +kernel
theorem dX0_fastersOf_43 : decode cX0_fastersOf 43 = .ok (.iload_n 3, 1) := by decide +kernel
theorem dX0_fastersOf_44 : decode cX0_fastersOf 44 = .ok (.irem, 1) := by decide +kernel
theorem dX0_fastersOf_45 : decode cX0_fastersOf 45 = .ok (.iaload, 1) := by decide +kernel
theorem dX0_fastersOf_46 : decode cX0_fastersOf 46 = .ok (.ishl, 1) := by decide +kernel
theorem dX0_fastersOf_47 : decode cX0_fastersOf 47 = .ok (.ior, 1) := by decide +kernel
theorem dX0_fastersOf_48 : decode cX0_fastersOf 48 = .ok (.istore 4, 2) := by decide +kernel
theorem dX0_fastersOf_50 : decode cX0_fastersOf 50 = .ok (.iinc 5 1, 3) := by decide +kernel
theorem dX0_fastersOf_53 : decode cX0_fastersOf 53 = .ok (.goto (-36), 3) := by decide +kernel
theorem dX0_fastersOf_56 : decode cX0_fastersOf 56 = .ok (.iload 4, 2) := by decide +kernel
theorem dX0_fastersOf_58 : decode cX0_fastersOf 58 = .ok (.ireturn, 1) := by decide +kernel
theorem dX1_init_0 : decode cX1_init 0 = .ok (.aload_n 0, 1) := by decide +kernel
theorem dX1_init_1 : decode cX1_init 1 = .ok (.iconst 0, 1) := by decide +kernel
theorem dX1_init_2 : decode cX1_init 2 = .ok (.iload_n 1, 1) := by decide +kernel
theorem dX1_init_3 : decode cX1_init 3 = .ok (.iload_n 2, 1) := by decide +kernel
theorem dX1_init_4 : decode cX1_init 4 = .ok (.iload_n 3, 1) := by decide +kernel
theorem dX1_init_5 : decode cX1_init 5 = .ok (.invokespecial 3, 3) := by decide +kernel
theorem dX1_init_8 : decode cX1_init 8 = .ok (.return_, 1) := by decide +kernel
theorem dX1_kindNumber_0 : decode cX1_kindNumber 0 = .ok (.iconst 2, 1) := by decide +kernel
theorem dX1_kindNumber_1 : decode cX1_kindNumber 1 = .ok (.ireturn, 1) := by decide +kernel
theorem dX2_init_0 : decode cX2_init 0 = .ok (.aload_n 0, 1) := by decide +kernel
theorem dX2_init_1 : decode cX2_init 1 = .ok (.iload_n 1, 1) := by decide +kernel
theorem dX2_init_2 : decode cX2_init 2 = .ok (.iload_n 2, 1) := by decide +kernel
theorem dX2_init_3 : decode cX2_init 3 = .ok (.iload_n 3, 1) := by decide +kernel
theorem dX2_init_4 : decode cX2_init 4 = .ok (.iload 4, 2) := by decide +kernel
theorem dX2_init_6 : decode cX2_init 6 = .ok (.invokespecial 3, 3) := by decide +kernel
theorem dX2_init_9 : decode cX2_init 9 = .ok (.return_, 1) := by decide +kernel
theorem dX2_kindNumber_0 : decode cX2_kindNumber 0 = .ok (.iconst 4, 1) := by decide +kernel
theorem dX2_kindNumber_1 : decode cX2_kindNumber 1 = .ok (.ireturn, 1) := by decide +kernel
theorem dX2_givesAway_0 : decode cX2_givesAway 0 = .ok (.aload_n 0, 1) := by decide +kernel
theorem dX2_givesAway_1 : decode cX2_givesAway 1 = .ok (.iload_n 1, 1) := by decide +kernel
theorem dX2_givesAway_2 : decode cX2_givesAway 2 = .ok (.invokevirtual 9, 3) := by decide +kernel
theorem dX2_givesAway_5 : decode cX2_givesAway 5 = .ok (.ireturn, 1) := by decide +kernel
theorem dX3_init_0 : decode cX3_init 0 = .ok (.aload_n 0, 1) := by decide +kernel
theorem dX3_init_1 : decode cX3_init 1 = .ok (.iload_n 1, 1) := by decide +kernel
theorem dX3_init_2 : decode cX3_init 2 = .ok (.iload_n 2, 1) := by decide +kernel
theorem dX3_init_3 : decode cX3_init 3 = .ok (.iload_n 3, 1) := by decide +kernel
theorem dX3_init_4 : decode cX3_init 4 = .ok (.iload 4, 2) := by decide +kernel
theorem dX3_init_6 : decode cX3_init 6 = .ok (.invokespecial 3, 3) := by decide +kernel
theorem dX3_init_9 : decode cX3_init 9 = .ok (.return_, 1) := by decide +kernel
theorem dX3_kindNumber_0 : decode cX3_kindNumber 0 = .ok (.iconst 3, 1) := by decide +kernel
theorem dX3_kindNumber_1 : decode cX3_kindNumber 1 = .ok (.ireturn, 1) := by decide +kernel
theorem dX3_bitesInTurn_0 : decode cX3_bitesInTurn 0 = .ok (.aload_n 0, 1) := by decide +kernel
theorem dX3_bitesInTurn_1 : decode cX3_bitesInTurn 1 = .ok (.iload_n 1, 1) := by decide +kernel
theorem dX3_bitesInTurn_2 : decode cX3_bitesInTurn 2 = .ok (.invokevirtual 9, 3) := by decide +kernel
theorem dX3_bitesInTurn_5 : decode cX3_bitesInTurn 5 = .ok (.ifCond .eq 7, 3) := by decide +kernel
theorem dX3_bitesInTurn_8 : decode cX3_bitesInTurn 8 = .ok (.iconst 2, 1) := by decide +kernel
theorem dX3_bitesInTurn_9 : decode cX3_bitesInTurn 9 = .ok (.goto 4, 3) := by decide +kernel
theorem dX3_bitesInTurn_12 : decode cX3_bitesInTurn 12 = .ok (.iconst 1, 1) := by decide +kernel
theorem dX3_bitesInTurn_13 : decode cX3_bitesInTurn 13 = .ok (.ireturn, 1) := by decide +kernel
theorem dX4_init_0 : decode cX4_init 0 = .ok (.aload_n 0, 1) := by decide +kernel
theorem dX4_init_1 : decode cX4_init 1 = .ok (.invokespecial 3, 3) := by decide +kernel
theorem dX4_init_4 : decode cX4_init 4 = .ok (.aload_n 0, 1) := by decide +kernel
theorem dX4_init_5 : decode cX4_init 5 = .ok (.iload_n 1, 1) := by decide +kernel
theorem dX4_init_6 : decode cX4_init 6 = .ok (.putfield 9, 3) := by decide +kernel
theorem dX4_init_9 : decode cX4_init 9 = .ok (.aload_n 0, 1) := by decide +kernel
theorem dX4_init_10 : decode cX4_init 10 = .ok (.iload_n 2, 1) := by decide +kernel
theorem dX4_init_11 : decode cX4_init 11 = .ok (.putfield 15, 3) := by decide +kernel
theorem dX4_init_14 : decode cX4_init 14 = .ok (.aload_n 0, 1) := by decide +kernel
theorem dX4_init_15 : decode cX4_init 15 = .ok (.iload_n 3, 1) := by decide +kernel
theorem dX4_init_16 : decode cX4_init 16 = .ok (.putfield 18, 3) := by decide +kernel
theorem dX4_init_19 : decode cX4_init 19 = .ok (.aload_n 0, 1) := by decide +kernel
theorem dX4_init_20 : decode cX4_init 20 = .ok (.iload 4, 2) := by decide +kernel
theorem dX4_init_22 : decode cX4_init 22 = .ok (.putfield 21, 3) := by decide +kernel
theorem dX4_init_25 : decode cX4_init 25 = .ok (.return_, 1) := by decide +kernel
theorem dX4_kindNumber_0 : decode cX4_kindNumber 0 = .ok (.iconst 0, 1) := by decide +kernel
theorem dX4_kindNumber_1 : decode cX4_kindNumber 1 = .ok (.ireturn, 1) := by decide +kernel
theorem dX4_isOfKind_0 : decode cX4_isOfKind 0 = .ok (.iload_n 1, 1) := by decide +kernel
theorem dX4_isOfKind_1 : decode cX4_isOfKind 1 = .ok (.tableswitch 67 0 4 #[35, 39, 46, 53, 60], 35) := by decide +kernel
theorem dX4_isOfKind_36 : decode cX4_isOfKind 36 = .ok (.iconst 1, 1) := by decide +kernel
theorem dX4_isOfKind_37 : decode cX4_isOfKind 37 = .ok (.goto 32, 3) := by decide +kernel
theorem dX4_isOfKind_40 : decode cX4_isOfKind 40 = .ok (.aload_n 0, 1) := by decide +kernel
theorem dX4_isOfKind_41 : decode cX4_isOfKind 41 = .ok (.instanceof 24, 3) := by decide +kernel
theorem dX4_isOfKind_44 : decode cX4_isOfKind 44 = .ok (.goto 25, 3) := by decide +kernel
theorem dX4_isOfKind_47 : decode cX4_isOfKind 47 = .ok (.aload_n 0, 1) := by decide +kernel
theorem dX4_isOfKind_48 : decode cX4_isOfKind 48 = .ok (.instanceof 26, 3) := by decide +kernel
theorem dX4_isOfKind_51 : decode cX4_isOfKind 51 = .ok (.goto 18, 3) := by decide +kernel
theorem dX4_isOfKind_54 : decode cX4_isOfKind 54 = .ok (.aload_n 0, 1) := by decide +kernel
theorem dX4_isOfKind_55 : decode cX4_isOfKind 55 = .ok (.instanceof 28, 3) := by decide +kernel
theorem dX4_isOfKind_58 : decode cX4_isOfKind 58 = .ok (.goto 11, 3) := by decide +kernel
theorem dX4_isOfKind_61 : decode cX4_isOfKind 61 = .ok (.aload_n 0, 1) := by decide +kernel
theorem dX4_isOfKind_62 : decode cX4_isOfKind 62 = .ok (.instanceof 30, 3) := by decide +kernel
theorem dX4_isOfKind_65 : decode cX4_isOfKind 65 = .ok (.goto 4, 3) := by decide +kernel
theorem dX4_isOfKind_68 : decode cX4_isOfKind 68 = .ok (.iconst 0, 1) := by decide +kernel
theorem dX4_isOfKind_69 : decode cX4_isOfKind 69 = .ok (.ireturn, 1) := by decide +kernel
theorem dX4_beatsOfTurn_0 : decode cX4_beatsOfTurn 0 = .ok (.iconst 1, 1) := by decide +kernel
theorem dX4_beatsOfTurn_1 : decode cX4_beatsOfTurn 1 = .ok (.ireturn, 1) := by decide +kernel
theorem dX4_bitesInTurn_0 : decode cX4_bitesInTurn 0 = .ok (.iconst 1, 1) := by decide +kernel
theorem dX4_bitesInTurn_1 : decode cX4_bitesInTurn 1 = .ok (.ireturn, 1) := by decide +kernel
theorem dX4_givesAway_0 : decode cX4_givesAway 0 = .ok (.iconst 0, 1) := by decide +kernel
theorem dX4_givesAway_1 : decode cX4_givesAway 1 = .ok (.ireturn, 1) := by decide +kernel
theorem dX4_isNth_0 : decode cX4_isNth 0 = .ok (.aload_n 0, 1) := by decide +kernel
theorem dX4_isNth_1 : decode cX4_isNth 1 = .ok (.getfield 9, 3) := by decide +kernel
theorem dX4_isNth_4 : decode cX4_isNth 4 = .ok (.ifCond .le 16, 3) := by decide +kernel
theorem dX4_isNth_7 : decode cX4_isNth 7 = .ok (.iload_n 1, 1) := by decide +kernel
theorem dX4_isNth_8 : decode cX4_isNth 8 = .ok (.aload_n 0, 1) := by decide +kernel
theorem dX4_isNth_9 : decode cX4_isNth 9 = .ok (.getfield 9, 3) := by decide +kernel
theorem dX4_isNth_12 : decode cX4_isNth 12 = .ok (.irem, 1) := by decide +kernel
theorem dX4_isNth_13 : decode cX4_isNth 13 = .ok (.ifCond .ne 7, 3) := by decide +kernel
theorem dX4_isNth_16 : decode cX4_isNth 16 = .ok (.iconst 1, 1) := by decide +kernel
theorem dX4_isNth_17 : decode cX4_isNth 17 = .ok (.goto 4, 3) := by decide +kernel
theorem dX4_isNth_20 : decode cX4_isNth 20 = .ok (.iconst 0, 1) := by decide +kernel
theorem dX4_isNth_21 : decode cX4_isNth 21 = .ok (.ireturn, 1) := by decide +kernel
theorem dX5_init_0 : decode cX5_init 0 = .ok (.aload_n 0, 1) := by decide +kernel
theorem dX5_init_1 : decode cX5_init 1 = .ok (.invokespecial 3, 3) := by decide +kernel
theorem dX5_init_4 : decode cX5_init 4 = .ok (.aload_n 0, 1) := by decide +kernel
theorem dX5_init_5 : decode cX5_init 5 = .ok (.bipush 16, 2) := by decide +kernel
theorem dX5_init_7 : decode cX5_init 7 = .ok (.newarray .int, 2) := by decide +kernel
theorem dX5_init_9 : decode cX5_init 9 = .ok (.putfield 9, 3) := by decide +kernel
theorem dX5_init_12 : decode cX5_init 12 = .ok (.return_, 1) := by decide +kernel
theorem dX5_lettersIn_0 : decode cX5_lettersIn 0 = .ok (.iconst 0, 1) := by decide +kernel
theorem dX5_lettersIn_1 : decode cX5_lettersIn 1 = .ok (.istore_n 2, 1) := by decide +kernel
theorem dX5_lettersIn_2 : decode cX5_lettersIn 2 = .ok (.lload_n 0, 1) := by decide +kernel
theorem dX5_lettersIn_3 : decode cX5_lettersIn 3 = .ok (.lstore_n 3, 1) := by decide +kernel
theorem dX5_lettersIn_4 : decode cX5_lettersIn 4 = .ok (.iload_n 2, 1) := by decide +kernel
theorem dX5_lettersIn_5 : decode cX5_lettersIn 5 = .ok (.bipush 8, 2) := by decide +kernel
theorem dX5_lettersIn_7 : decode cX5_lettersIn 7 = .ok (.if_icmp .ge 38, 3) := by decide +kernel
theorem dX5_lettersIn_10 : decode cX5_lettersIn 10 = .ok (.lload_n 3, 1) := by decide +kernel
theorem dX5_lettersIn_11 : decode cX5_lettersIn 11 = .ok (.ldc2_w 15, 3) := by decide +kernel
theorem dX5_lettersIn_14 : decode cX5_lettersIn 14 = .ok (.land, 1) := by decide +kernel
theorem dX5_lettersIn_15 : decode cX5_lettersIn 15 = .ok (.lconst 0, 1) := by decide +kernel
theorem dX5_lettersIn_16 : decode cX5_lettersIn 16 = .ok (.lcmp, 1) := by decide +kernel
theorem dX5_lettersIn_17 : decode cX5_lettersIn 17 = .ok (.ifCond .eq 28, 3) := by decide +kernel
theorem dX5_lettersIn_20 : decode cX5_lettersIn 20 = .ok (.lload_n 3, 1) := by decide +kernel
theorem dX5_lettersIn_21 : decode cX5_lettersIn 21 = .ok (.ldc2_w 15, 3) := by decide +kernel
theorem dX5_lettersIn_24 : decode cX5_lettersIn 24 = .ok (.land, 1) := by decide +kernel
theorem dX5_lettersIn_25 : decode cX5_lettersIn 25 = .ok (.ldc2_w 17, 3) := by decide +kernel
theorem dX5_lettersIn_28 : decode cX5_lettersIn 28 = .ok (.lcmp, 1) := by decide +kernel
theorem dX5_lettersIn_29 : decode cX5_lettersIn 29 = .ok (.ifCond .le 5, 3) := by decide +kernel
theorem dX5_lettersIn_32 : decode cX5_lettersIn 32 = .ok (.iconst (-1), 1) := by decide +kernel
theorem dX5_lettersIn_33 : decode cX5_lettersIn 33 = .ok (.ireturn, 1) := by decide +kernel
theorem dX5_lettersIn_34 : decode cX5_lettersIn 34 = .ok (.lload_n 3, 1) := by decide +kernel
theorem dX5_lettersIn_35 : decode cX5_lettersIn 35 = .ok (.bipush 8, 2) := by decide +kernel
theorem dX5_lettersIn_37 : decode cX5_lettersIn 37 = .ok (.lushr, 1) := by decide +kernel
theorem dX5_lettersIn_38 : decode cX5_lettersIn 38 = .ok (.lstore_n 3, 1) := by decide +kernel
theorem dX5_lettersIn_39 : decode cX5_lettersIn 39 = .ok (.iinc 2 1, 3) := by decide +kernel
theorem dX5_lettersIn_42 : decode cX5_lettersIn 42 = .ok (.goto (-38), 3) := by decide +kernel
theorem dX5_lettersIn_45 : decode cX5_lettersIn 45 = .ok (.lload_n 3, 1) := by decide +kernel
theorem dX5_lettersIn_46 : decode cX5_lettersIn 46 = .ok (.lconst 0, 1) := by decide +kernel
theorem dX5_lettersIn_47 : decode cX5_lettersIn 47 = .ok (.lcmp, 1) := by decide +kernel
theorem dX5_lettersIn_48 : decode cX5_lettersIn 48 = .ok (.ifCond .ne 7, 3) := by decide +kernel
theorem dX5_lettersIn_51 : decode cX5_lettersIn 51 = .ok (.iload_n 2, 1) := by decide +kernel
theorem dX5_lettersIn_52 : decode cX5_lettersIn 52 = .ok (.goto 4, 3) := by decide +kernel
theorem dX5_lettersIn_55 : decode cX5_lettersIn 55 = .ok (.iconst (-1), 1) := by decide +kernel
theorem dX5_lettersIn_56 : decode cX5_lettersIn 56 = .ok (.ireturn, 1) := by decide +kernel
theorem dX5_write_0 : decode cX5_write 0 = .ok (.iconst 0, 1) := by decide +kernel
theorem dX5_write_1 : decode cX5_write 1 = .ok (.istore 4, 2) := by decide +kernel
theorem dX5_write_3 : decode cX5_write 3 = .ok (.iload 4, 2) := by decide +kernel
theorem dX5_write_5 : decode cX5_write 5 = .ok (.iload_n 3, 1) := by decide +kernel
theorem dX5_write_6 : decode cX5_write 6 = .ok (.if_icmp .ge 49, 3) := by decide +kernel
theorem dX5_write_9 : decode cX5_write 9 = .ok (.aload_n 0, 1) := by decide +kernel
theorem dX5_write_10 : decode cX5_write 10 = .ok (.getfield 19, 3) := by decide +kernel
theorem dX5_write_13 : decode cX5_write 13 = .ok (.bipush 16, 2) := by decide +kernel
theorem dX5_write_15 : decode cX5_write 15 = .ok (.if_icmp .ge 40, 3) := by decide +kernel
theorem dX5_write_18 : decode cX5_write 18 = .ok (.aload_n 0, 1) := by decide +kernel
theorem dX5_write_19 : decode cX5_write 19 = .ok (.getfield 9, 3) := by decide +kernel
theorem dX5_write_22 : decode cX5_write 22 = .ok (.aload_n 0, 1) := by decide +kernel
theorem dX5_write_23 : decode cX5_write 23 = .ok (.getfield 19, 3) := by decide +kernel
theorem dX5_write_26 : decode cX5_write 26 = .ok (.lload_n 1, 1) := by decide +kernel
theorem dX5_write_27 : decode cX5_write 27 = .ok (.bipush 8, 2) := by decide +kernel
theorem dX5_write_29 : decode cX5_write 29 = .ok (.iload 4, 2) := by decide +kernel
theorem dX5_write_31 : decode cX5_write 31 = .ok (.imul, 1) := by decide +kernel
theorem dX5_write_32 : decode cX5_write 32 = .ok (.lushr, 1) := by decide +kernel
theorem dX5_write_33 : decode cX5_write 33 = .ok (.ldc2_w 15, 3) := by decide +kernel
theorem dX5_write_36 : decode cX5_write 36 = .ok (.land, 1) := by decide +kernel
theorem dX5_write_37 : decode cX5_write 37 = .ok (.l2i, 1) := by decide +kernel
theorem dX5_write_38 : decode cX5_write 38 = .ok (.iastore, 1) := by decide +kernel
theorem dX5_write_39 : decode cX5_write 39 = .ok (.aload_n 0, 1) := by decide +kernel
theorem dX5_write_40 : decode cX5_write 40 = .ok (.dup, 1) := by decide +kernel
theorem dX5_write_41 : decode cX5_write 41 = .ok (.getfield 19, 3) := by decide +kernel
theorem dX5_write_44 : decode cX5_write 44 = .ok (.iconst 1, 1) := by decide +kernel
theorem dX5_write_45 : decode cX5_write 45 = .ok (.iadd, 1) := by decide +kernel
theorem dX5_write_46 : decode cX5_write 46 = .ok (.putfield 19, 3) := by decide +kernel
theorem dX5_write_49 : decode cX5_write 49 = .ok (.iinc 4 1, 3) := by decide +kernel
theorem dX5_write_52 : decode cX5_write 52 = .ok (.goto (-49), 3) := by decide +kernel
theorem dX5_write_55 : decode cX5_write 55 = .ok (.return_, 1) := by decide +kernel
theorem dX5_read_0 : decode cX5_read 0 = .ok (.aload_n 0, 1) := by decide +kernel
theorem dX5_read_1 : decode cX5_read 1 = .ok (.iconst 0, 1) := by decide +kernel
theorem dX5_read_2 : decode cX5_read 2 = .ok (.putfield 23, 3) := by decide +kernel
theorem dX5_read_5 : decode cX5_read 5 = .ok (.aload_n 0, 1) := by decide +kernel
theorem dX5_read_6 : decode cX5_read 6 = .ok (.iconst 0, 1) := by decide +kernel
theorem dX5_read_7 : decode cX5_read 7 = .ok (.putfield 26, 3) := by decide +kernel
theorem dX5_read_10 : decode cX5_read 10 = .ok (.aload_n 0, 1) := by decide +kernel
theorem dX5_read_11 : decode cX5_read 11 = .ok (.aload_n 0, 1) := by decide +kernel
theorem dX5_read_12 : decode cX5_read 12 = .ok (.bipush 108, 2) := by decide +kernel
theorem dX5_read_14 : decode cX5_read 14 = .ok (.invokevirtual 30, 3) := by decide +kernel
theorem dX5_read_17 : decode cX5_read 17 = .ok (.putfield 34, 3) := by decide +kernel
theorem dX5_read_20 : decode cX5_read 20 = .ok (.aload_n 0, 1) := by decide +kernel
theorem dX5_read_21 : decode cX5_read 21 = .ok (.getfield 34, 3) := by decide +kernel
theorem dX5_read_24 : decode cX5_read 24 = .ok (.ifCond .ne 13, 3) := by decide +kernel
theorem dX5_read_27 : decode cX5_read 27 = .ok (.aload_n 0, 1) := by decide +kernel
theorem dX5_read_28 : decode cX5_read 28 = .ok (.bipush 114, 2) := by decide +kernel
theorem dX5_read_30 : decode cX5_read 30 = .ok (.invokevirtual 30, 3) := by decide +kernel
theorem dX5_read_33 : decode cX5_read 33 = .ok (.ifCond .ne 4, 3) := by decide +kernel
theorem dX5_read_36 : decode cX5_read 36 = .ok (.return_, 1) := by decide +kernel
theorem dX5_read_37 : decode cX5_read 37 = .ok (.aload_n 0, 1) := by decide +kernel
theorem dX5_read_38 : decode cX5_read 38 = .ok (.bipush 116, 2) := by decide +kernel
theorem dX5_read_40 : decode cX5_read 40 = .ok (.invokevirtual 30, 3) := by decide +kernel
theorem dX5_read_43 : decode cX5_read 43 = .ok (.istore_n 1, 1) := by decide +kernel
theorem dX5_read_44 : decode cX5_read 44 = .ok (.aload_n 0, 1) := by decide +kernel
theorem dX5_read_45 : decode cX5_read 45 = .ok (.iload_n 1, 1) := by decide +kernel
theorem dX5_read_46 : decode cX5_read 46 = .ok (.ifCond .eq 10, 3) := by decide +kernel
theorem dX5_read_49 : decode cX5_read 49 = .ok (.aload_n 0, 1) := by decide +kernel
theorem dX5_read_50 : decode cX5_read 50 = .ok (.invokevirtual 37, 3) := by decide +kernel
theorem dX5_read_53 : decode cX5_read 53 = .ok (.goto 4, 3) := by decide +kernel
theorem dX5_read_56 : decode cX5_read 56 = .ok (.iconst 0, 1) := by decide +kernel
theorem dX5_read_57 : decode cX5_read 57 = .ok (.putfield 41, 3) := by decide +kernel
theorem dX5_read_60 : decode cX5_read 60 = .ok (.iload_n 1, 1) := by decide +kernel
theorem dX5_read_61 : decode cX5_read 61 = .ok (.ifCond .eq 11, 3) := by decide +kernel
theorem dX5_read_64 : decode cX5_read 64 = .ok (.aload_n 0, 1) := by decide +kernel
theorem dX5_read_65 : decode cX5_read 65 = .ok (.getfield 41, 3) := by decide +kernel
theorem dX5_read_68 : decode cX5_read 68 = .ok (.ifCond .ne 4, 3) := by decide +kernel
theorem dX5_read_71 : decode cX5_read 71 = .ok (.return_, 1) := by decide +kernel
theorem dX5_read_72 : decode cX5_read 72 = .ok (.aload_n 0, 1) := by decide +kernel
theorem dX5_read_73 : decode cX5_read 73 = .ok (.aload_n 0, 1) := by decide +kernel
theorem dX5_read_74 : decode cX5_read 74 = .ok (.bipush 100, 2) := by decide +kernel
theorem dX5_read_76 : decode cX5_read 76 = .ok (.invokevirtual 30, 3) := by decide +kernel
theorem dX5_read_79 : decode cX5_read 79 = .ok (.putfield 44, 3) := by decide +kernel
theorem dX5_read_82 : decode cX5_read 82 = .ok (.aload_n 0, 1) := by decide +kernel
theorem dX5_read_83 : decode cX5_read 83 = .ok (.bipush 120, 2) := by decide +kernel
theorem dX5_read_85 : decode cX5_read 85 = .ok (.invokevirtual 30, 3) := by decide +kernel
theorem dX5_read_88 : decode cX5_read 88 = .ok (.istore_n 2, 1) := by decide +kernel
theorem dX5_read_89 : decode cX5_read 89 = .ok (.aload_n 0, 1) := by decide +kernel
theorem dX5_read_90 : decode cX5_read 90 = .ok (.iload_n 2, 1) := by decide +kernel
theorem dX5_read_91 : decode cX5_read 91 = .ok (.ifCond .eq 10, 3) := by decide +kernel
theorem dX5_read_94 : decode cX5_read 94 = .ok (.aload_n 0, 1) := by decide +kernel
theorem dX5_read_95 : decode cX5_read 95 = .ok (.invokevirtual 37, 3) := by decide +kernel
theorem dX5_read_98 : decode cX5_read 98 = .ok (.goto 4, 3) := by decide +kernel
theorem dX5_read_101 : decode cX5_read 101 = .ok (.iconst 0, 1) := by decide +kernel
theorem dX5_read_102 : decode cX5_read 102 = .ok (.putfield 47, 3) := by decide +kernel
theorem dX5_read_105 : decode cX5_read 105 = .ok (.aload_n 0, 1) := by decide +kernel
theorem dX5_read_106 : decode cX5_read 106 = .ok (.aload_n 0, 1) := by decide +kernel
theorem dX5_read_107 : decode cX5_read 107 = .ok (.getfield 23, 3) := by decide +kernel
theorem dX5_read_110 : decode cX5_read 110 = .ok (.aload_n 0, 1) := by decide +kernel
theorem dX5_read_111 : decode cX5_read 111 = .ok (.getfield 19, 3) := by decide +kernel
theorem dX5_read_114 : decode cX5_read 114 = .ok (.if_icmp .ne 18, 3) := by decide +kernel
theorem dX5_read_117 : decode cX5_read 117 = .ok (.iload_n 2, 1) := by decide +kernel
theorem dX5_read_118 : decode cX5_read 118 = .ok (.ifCond .eq 10, 3) := by decide +kernel
theorem dX5_read_121 : decode cX5_read 121 = .ok (.aload_n 0, 1) := by decide +kernel
theorem dX5_read_122 : decode cX5_read 122 = .ok (.getfield 47, 3) := by decide +kernel
theorem dX5_read_125 : decode cX5_read 125 = .ok (.ifCond .eq 7, 3) := by decide +kernel
theorem dX5_read_128 : decode cX5_read 128 = .ok (.iconst 1, 1) := by decide +kernel
theorem dX5_read_129 : decode cX5_read 129 = .ok (.goto 4, 3) := by decide +kernel
theorem dX5_read_132 : decode cX5_read 132 = .ok (.iconst 0, 1) := by decide +kernel
theorem dX5_read_133 : decode cX5_read 133 = .ok (.putfield 26, 3) := by decide +kernel
theorem dX5_read_136 : decode cX5_read 136 = .ok (.return_, 1) := by decide +kernel
theorem dX5_comes_0 : decode cX5_comes 0 = .ok (.aload_n 0, 1) := by decide +kernel
theorem dX5_comes_1 : decode cX5_comes 1 = .ok (.getfield 23, 3) := by decide +kernel
theorem dX5_comes_4 : decode cX5_comes 4 = .ok (.aload_n 0, 1) := by decide +kernel
theorem dX5_comes_5 : decode cX5_comes 5 = .ok (.getfield 19, 3) := by decide +kernel
theorem dX5_comes_8 : decode cX5_comes 8 = .ok (.if_icmp .ge 16, 3) := by decide +kernel
theorem dX5_comes_11 : decode cX5_comes 11 = .ok (.aload_n 0, 1) := by decide +kernel
theorem dX5_comes_12 : decode cX5_comes 12 = .ok (.getfield 9, 3) := by decide +kernel
theorem dX5_comes_15 : decode cX5_comes 15 = .ok (.aload_n 0, 1) := by decide +kernel
theorem dX5_comes_16 : decode cX5_comes 16 = .ok (.getfield 23, 3) := by decide +kernel
theorem dX5_comes_19 : decode cX5_comes 19 = .ok (.iaload, 1) := by decide +kernel
theorem dX5_comes_20 : decode cX5_comes 20 = .ok (.iload_n 1, 1) := by decide +kernel
theorem dX5_comes_21 : decode cX5_comes 21 = .ok (.if_icmp .eq 5, 3) := by decide +kernel
theorem dX5_comes_24 : decode cX5_comes 24 = .ok (.iconst 0, 1) := by decide +kernel
theorem dX5_comes_25 : decode cX5_comes 25 = .ok (.ireturn, 1) := by decide +kernel
theorem dX5_comes_26 : decode cX5_comes 26 = .ok (.aload_n 0, 1) := by decide +kernel
theorem dX5_comes_27 : decode cX5_comes 27 = .ok (.dup, 1) := by decide +kernel
theorem dX5_comes_28 : decode cX5_comes 28 = .ok (.getfield 23, 3) := by decide +kernel
theorem dX5_comes_31 : decode cX5_comes 31 = .ok (.iconst 1, 1) := by decide +kernel
theorem dX5_comes_32 : decode cX5_comes 32 = .ok (.iadd, 1) := by decide +kernel
theorem dX5_comes_33 : decode cX5_comes 33 = .ok (.putfield 23, 3) := by decide +kernel
theorem dX5_comes_36 : decode cX5_comes 36 = .ok (.iconst 1, 1) := by decide +kernel
theorem dX5_comes_37 : decode cX5_comes 37 = .ok (.ireturn, 1) := by decide +kernel
theorem dX5_digit_0 : decode cX5_digit 0 = .ok (.aload_n 0, 1) := by decide +kernel
theorem dX5_digit_1 : decode cX5_digit 1 = .ok (.getfield 23, 3) := by decide +kernel
theorem dX5_digit_4 : decode cX5_digit 4 = .ok (.aload_n 0, 1) := by decide +kernel
theorem dX5_digit_5 : decode cX5_digit 5 = .ok (.getfield 19, 3) := by decide +kernel
theorem dX5_digit_8 : decode cX5_digit 8 = .ok (.if_icmp .ge 31, 3) := by decide +kernel
theorem dX5_digit_11 : decode cX5_digit 11 = .ok (.aload_n 0, 1) := by decide +kernel
theorem dX5_digit_12 : decode cX5_digit 12 = .ok (.getfield 9, 3) := by decide +kernel
theorem dX5_digit_15 : decode cX5_digit 15 = .ok (.aload_n 0, 1) := by decide +kernel
theorem dX5_digit_16 : decode cX5_digit 16 = .ok (.getfield 23, 3) := by decide +kernel
theorem dX5_digit_19 : decode cX5_digit 19 = .ok (.iaload, 1) := by decide +kernel
theorem dX5_digit_20 : decode cX5_digit 20 = .ok (.bipush 49, 2) := by decide +kernel
theorem dX5_digit_22 : decode cX5_digit 22 = .ok (.if_icmp .lt 17, 3) := by decide +kernel
theorem dX5_digit_25 : decode cX5_digit 25 = .ok (.aload_n 0, 1) := by decide +kernel
theorem dX5_digit_26 : decode cX5_digit 26 = .ok (.getfield 9, 3) := by decide +kernel
theorem dX5_digit_29 : decode cX5_digit 29 = .ok (.aload_n 0, 1) := by decide +kernel
theorem dX5_digit_30 : decode cX5_digit 30 = .ok (.getfield 23, 3) := by decide +kernel
theorem dX5_digit_33 : decode cX5_digit 33 = .ok (.iaload, 1) := by decide +kernel
theorem dX5_digit_34 : decode cX5_digit 34 = .ok (.bipush 57, 2) := by decide +kernel
theorem dX5_digit_36 : decode cX5_digit 36 = .ok (.if_icmp .le 5, 3) := by decide +kernel
theorem dX5_digit_39 : decode cX5_digit 39 = .ok (.iconst 0, 1) := by decide +kernel
theorem dX5_digit_40 : decode cX5_digit 40 = .ok (.ireturn, 1) := by decide +kernel
theorem dX5_digit_41 : decode cX5_digit 41 = .ok (.aload_n 0, 1) := by decide +kernel
theorem dX5_digit_42 : decode cX5_digit 42 = .ok (.dup, 1) := by decide +kernel
theorem dX5_digit_43 : decode cX5_digit 43 = .ok (.getfield 23, 3) := by decide +kernel
theorem dX5_digit_46 : decode cX5_digit 46 = .ok (.iconst 1, 1) := by decide +kernel
theorem dX5_digit_47 : decode cX5_digit 47 = .ok (.iadd, 1) := by decide +kernel
theorem dX5_digit_48 : decode cX5_digit 48 = .ok (.putfield 23, 3) := by decide +kernel
theorem dX5_digit_51 : decode cX5_digit 51 = .ok (.aload_n 0, 1) := by decide +kernel
theorem dX5_digit_52 : decode cX5_digit 52 = .ok (.getfield 9, 3) := by decide +kernel
theorem dX5_digit_55 : decode cX5_digit 55 = .ok (.aload_n 0, 1) := by decide +kernel
theorem dX5_digit_56 : decode cX5_digit 56 = .ok (.getfield 23, 3) := by decide +kernel
theorem dX5_digit_59 : decode cX5_digit 59 = .ok (.iconst 1, 1) := by decide +kernel
theorem dX5_digit_60 : decode cX5_digit 60 = .ok (.isub, 1) := by decide +kernel
theorem dX5_digit_61 : decode cX5_digit 61 = .ok (.iaload, 1) := by decide +kernel
theorem dX5_digit_62 : decode cX5_digit 62 = .ok (.bipush 48, 2) := by decide +kernel
theorem dX5_digit_64 : decode cX5_digit 64 = .ok (.isub, 1) := by decide +kernel
theorem dX5_digit_65 : decode cX5_digit 65 = .ok (.ireturn, 1) := by decide +kernel
theorem dX6_init_0 : decode cX6_init 0 = .ok (.aload_n 0, 1) := by decide +kernel
theorem dX6_init_1 : decode cX6_init 1 = .ok (.invokespecial 3, 3) := by decide +kernel
theorem dX6_init_4 : decode cX6_init 4 = .ok (.aload_n 0, 1) := by decide +kernel
theorem dX6_init_5 : decode cX6_init 5 = .ok (.iconst 5, 1) := by decide +kernel
theorem dX6_init_6 : decode cX6_init 6 = .ok (.newarray .int, 2) := by decide +kernel
theorem dX6_init_8 : decode cX6_init 8 = .ok (.putfield 9, 3) := by decide +kernel
theorem dX6_init_11 : decode cX6_init 11 = .ok (.aload_n 0, 1) := by decide +kernel
theorem dX6_init_12 : decode cX6_init 12 = .ok (.bipush 10, 2) := by decide +kernel
theorem dX6_init_14 : decode cX6_init 14 = .ok (.newarray .int, 2) := by decide +kernel
theorem dX6_init_16 : decode cX6_init 16 = .ok (.putfield 15, 3) := by decide +kernel
theorem dX6_init_19 : decode cX6_init 19 = .ok (.aload_n 0, 1) := by decide +kernel
theorem dX6_init_20 : decode cX6_init 20 = .ok (.bipush 10, 2) := by decide +kernel
theorem dX6_init_22 : decode cX6_init 22 = .ok (.newarray .int, 2) := by decide +kernel
theorem dX6_init_24 : decode cX6_init 24 = .ok (.putfield 18, 3) := by decide +kernel
theorem dX6_init_27 : decode cX6_init 27 = .ok (.aload_n 0, 1) := by decide +kernel
theorem dX6_init_28 : decode cX6_init 28 = .ok (.bipush 10, 2) := by decide +kernel
theorem dX6_init_30 : decode cX6_init 30 = .ok (.newarray .int, 2) := by decide +kernel
theorem dX6_init_32 : decode cX6_init 32 = .ok (.putfield 21, 3) := by decide +kernel
theorem dX6_init_35 : decode cX6_init 35 = .ok (.aload_n 0, 1) := by decide +kernel
theorem dX6_init_36 : decode cX6_init 36 = .ok (.iconst 5, 1) := by decide +kernel
theorem dX6_init_37 : decode cX6_init 37 = .ok (.newarray .int, 2) := by decide +kernel
theorem dX6_init_39 : decode cX6_init 39 = .ok (.putfield 24, 3) := by decide +kernel
theorem dX6_init_42 : decode cX6_init 42 = .ok (.aload_n 0, 1) := by decide +kernel
theorem dX6_init_43 : decode cX6_init 43 = .ok (.aload_n 1, 1) := by decide +kernel
theorem dX6_init_44 : decode cX6_init 44 = .ok (.putfield 27, 3) := by decide +kernel
theorem dX6_init_47 : decode cX6_init 47 = .ok (.return_, 1) := by decide +kernel
theorem dX6_begin_0 : decode cX6_begin 0 = .ok (.aload_n 0, 1) := by decide +kernel
theorem dX6_begin_1 : decode cX6_begin 1 = .ok (.aload_n 1, 1) := by decide +kernel
theorem dX6_begin_2 : decode cX6_begin 2 = .ok (.putfield 27, 3) := by decide +kernel
theorem dX6_begin_5 : decode cX6_begin 5 = .ok (.aload_n 1, 1) := by decide +kernel
theorem dX6_begin_6 : decode cX6_begin 6 = .ok (.getfield 31, 3) := by decide +kernel
theorem dX6_begin_9 : decode cX6_begin 9 = .ok (.iconst 0, 1) := by decide +kernel
theorem dX6_begin_10 : decode cX6_begin 10 = .ok (.aload_n 0, 1) := by decide +kernel
theorem dX6_begin_11 : decode cX6_begin 11 = .ok (.getfield 9, 3) := by decide +kernel
theorem dX6_begin_14 : decode cX6_begin 14 = .ok (.iconst 0, 1) := by decide +kernel
theorem dX6_begin_15 : decode cX6_begin 15 = .ok (.iconst 5, 1) := by decide +kernel
theorem dX6_begin_16 : decode cX6_begin 16 = .ok (.invokestatic 34, 3) := by decide +kernel
theorem dX6_begin_19 : decode cX6_begin 19 = .ok (.aload_n 0, 1) := by decide +kernel
theorem dX6_begin_20 : decode cX6_begin 20 = .ok (.aload_n 1, 1) := by decide +kernel
theorem dX6_begin_21 : decode cX6_begin 21 = .ok (.getfield 40, 3) := by decide +kernel
theorem dX6_begin_24 : decode cX6_begin 24 = .ok (.putfield 44, 3) := by decide +kernel
theorem dX6_begin_27 : decode cX6_begin 27 = .ok (.aload_n 0, 1) := by decide +kernel
theorem dX6_begin_28 : decode cX6_begin 28 = .ok (.aload_n 1, 1) := by decide +kernel
theorem dX6_begin_29 : decode cX6_begin 29 = .ok (.invokevirtual 45, 3) := by decide +kernel
theorem dX6_begin_32 : decode cX6_begin 32 = .ok (.putfield 49, 3) := by decide +kernel
theorem dX6_begin_35 : decode cX6_begin 35 = .ok (.aload_n 0, 1) := by decide +kernel
theorem dX6_begin_36 : decode cX6_begin 36 = .ok (.iconst 0, 1) := by decide +kernel
theorem dX6_begin_37 : decode cX6_begin 37 = .ok (.putfield 52, 3) := by decide +kernel
theorem dX6_begin_40 : decode cX6_begin 40 = .ok (.aload_n 0, 1) := by decide +kernel
theorem dX6_begin_41 : decode cX6_begin 41 = .ok (.iconst 0, 1) := by decide +kernel
theorem dX6_begin_42 : decode cX6_begin 42 = .ok (.putfield 55, 3) := by decide +kernel
theorem dX6_begin_45 : decode cX6_begin 45 = .ok (.aload_n 0, 1) := by decide +kernel
theorem dX6_begin_46 : decode cX6_begin 46 = .ok (.iconst 0, 1) := by decide +kernel
theorem dX6_begin_47 : decode cX6_begin 47 = .ok (.putfield 58, 3) := by decide +kernel
theorem dX6_begin_50 : decode cX6_begin 50 = .ok (.aload_n 0, 1) := by decide +kernel
theorem dX6_begin_51 : decode cX6_begin 51 = .ok (.iconst 0, 1) := by decide +kernel
theorem dX6_begin_52 : decode cX6_begin 52 = .ok (.putfield 61, 3) := by decide +kernel
theorem dX6_begin_55 : decode cX6_begin 55 = .ok (.iconst 0, 1) := by decide +kernel
theorem dX6_begin_56 : decode cX6_begin 56 = .ok (.istore_n 2, 1) := by decide +kernel
theorem dX6_begin_57 : decode cX6_begin 57 = .ok (.iload_n 2, 1) := by decide +kernel
theorem dX6_begin_58 : decode cX6_begin 58 = .ok (.bipush 10, 2) := by decide +kernel
theorem dX6_begin_60 : decode cX6_begin 60 = .ok (.if_icmp .ge 30, 3) := by decide +kernel
theorem dX6_begin_63 : decode cX6_begin 63 = .ok (.aload_n 0, 1) := by decide +kernel
theorem dX6_begin_64 : decode cX6_begin 64 = .ok (.getfield 15, 3) := by decide +kernel
theorem dX6_begin_67 : decode cX6_begin 67 = .ok (.iload_n 2, 1) := by decide +kernel
theorem dX6_begin_68 : decode cX6_begin 68 = .ok (.iconst 0, 1) := by decide +kernel
theorem dX6_begin_69 : decode cX6_begin 69 = .ok (.iastore, 1) := by decide +kernel
theorem dX6_begin_70 : decode cX6_begin 70 = .ok (.aload_n 0, 1) := by decide +kernel
theorem dX6_begin_71 : decode cX6_begin 71 = .ok (.getfield 18, 3) := by decide +kernel
theorem dX6_begin_74 : decode cX6_begin 74 = .ok (.iload_n 2, 1) := by decide +kernel
theorem dX6_begin_75 : decode cX6_begin 75 = .ok (.iconst 0, 1) := by decide +kernel
theorem dX6_begin_76 : decode cX6_begin 76 = .ok (.iastore, 1) := by decide +kernel
theorem dX6_begin_77 : decode cX6_begin 77 = .ok (.aload_n 0, 1) := by decide +kernel
theorem dX6_begin_78 : decode cX6_begin 78 = .ok (.getfield 21, 3) := by decide +kernel
theorem dX6_begin_81 : decode cX6_begin 81 = .ok (.iload_n 2, 1) := by decide +kernel
theorem dX6_begin_82 : decode cX6_begin 82 = .ok (.iconst 0, 1) := by decide +kernel
theorem dX6_begin_83 : decode cX6_begin 83 = .ok (.iastore, 1) := by decide +kernel
theorem dX6_begin_84 : decode cX6_begin 84 = .ok (.iinc 2 1, 3) := by decide +kernel
theorem dX6_begin_87 : decode cX6_begin 87 = .ok (.goto (-30), 3) := by decide +kernel
theorem dX6_begin_90 : decode cX6_begin 90 = .ok (.aload_n 0, 1) := by decide +kernel
theorem dX6_begin_91 : decode cX6_begin 91 = .ok (.iconst (-1), 1) := by decide +kernel
theorem dX6_begin_92 : decode cX6_begin 92 = .ok (.putfield 64, 3) := by decide +kernel
theorem dX6_begin_95 : decode cX6_begin 95 = .ok (.aload_n 0, 1) := by decide +kernel
theorem dX6_begin_96 : decode cX6_begin 96 = .ok (.iconst (-1), 1) := by decide +kernel
theorem dX6_begin_97 : decode cX6_begin 97 = .ok (.putfield 67, 3) := by decide +kernel
theorem dX6_begin_100 : decode cX6_begin 100 = .ok (.return_, 1) := by decide +kernel
theorem dX6_wholeDay_0 : decode cX6_wholeDay 0 = .ok (.aload_n 0, 1) := by decide +kernel
theorem dX6_wholeDay_1 : decode cX6_wholeDay 1 = .ok (.aload_n 1, 1) := by decide +kernel
theorem dX6_wholeDay_2 : decode cX6_wholeDay 2 = .ok (.invokevirtual 70, 3) := by decide +kernel
theorem dX6_wholeDay_5 : decode cX6_wholeDay 5 = .ok (.aload_n 0, 1) := by decide +kernel
theorem dX6_wholeDay_6 : decode cX6_wholeDay 6 = .ok (.aload_n 2, 1) := by decide +kernel
theorem dX6_wholeDay_7 : decode cX6_wholeDay 7 = .ok (.aload_n 2, 1) := by decide +kernel
theorem dX6_wholeDay_8 : decode cX6_wholeDay 8 = .ok (.getfield 74, 3) := by decide +kernel
theorem dX6_wholeDay_11 : decode cX6_wholeDay 11 = .ok (.iload_n 3, 1) := by decide +kernel
theorem dX6_wholeDay_12 : decode cX6_wholeDay 12 = .ok (.iload 4, 2) := by decide +kernel
theorem dX6_wholeDay_14 : decode cX6_wholeDay 14 = .ok (.sipush 300, 3) := by decide +kernel
theorem dX6_wholeDay_17 : decode cX6_wholeDay 17 = .ok (.invokevirtual 77, 3) := by decide +kernel
theorem dX6_wholeDay_20 : decode cX6_wholeDay 20 = .ok (.return_, 1) := by decide +kernel
theorem dX6_leastOf_0 : decode cX6_leastOf 0 = .ok (.aload_n 0, 1) := by decide +kernel
theorem dX6_leastOf_1 : decode cX6_leastOf 1 = .ok (.aload_n 1, 1) := by decide +kernel
theorem dX6_leastOf_2 : decode cX6_leastOf 2 = .ok (.invokevirtual 70, 3) := by decide +kernel
theorem dX6_leastOf_5 : decode cX6_leastOf 5 = .ok (.aload_n 0, 1) := by decide +kernel
theorem dX6_leastOf_6 : decode cX6_leastOf 6 = .ok (.aload_n 2, 1) := by decide +kernel
theorem dX6_leastOf_7 : decode cX6_leastOf 7 = .ok (.iload_n 3, 1) := by decide +kernel
theorem dX6_leastOf_8 : decode cX6_leastOf 8 = .ok (.iload 4, 2) := by decide +kernel
theorem dX6_leastOf_10 : decode cX6_leastOf 10 = .ok (.iconst 0, 1) := by decide +kernel
theorem dX6_leastOf_11 : decode cX6_leastOf 11 = .ok (.sipush 300, 3) := by decide +kernel
theorem dX6_leastOf_14 : decode cX6_leastOf 14 = .ok (.invokevirtual 77, 3) := by decide +kernel
theorem dX6_leastOf_17 : decode cX6_leastOf 17 = .ok (.aload_n 0, 1) := by decide +kernel
theorem dX6_leastOf_18 : decode cX6_leastOf 18 = .ok (.invokevirtual 81, 3) := by decide +kernel
theorem dX6_leastOf_21 : decode cX6_leastOf 21 = .ok (.ireturn, 1) := by decide +kernel
theorem dX6_goRound_0 : decode cX6_goRound 0 = .ok (.iload_n 3, 1) := by decide +kernel
theorem dX6_goRound_1 : decode cX6_goRound 1 = .ok (.istore 6, 2) := by decide +kernel
theorem dX6_goRound_3 : decode cX6_goRound 3 = .ok (.aload_n 0, 1) := by decide +kernel
theorem dX6_goRound_4 : decode cX6_goRound 4 = .ok (.getfield 52, 3) := by decide +kernel
theorem dX6_goRound_7 : decode cX6_goRound 7 = .ok (.iload 5, 2) := by decide +kernel
theorem dX6_goRound_9 : decode cX6_goRound 9 = .ok (.if_icmp .ge 98, 3) := by decide +kernel
theorem dX6_goRound_12 : decode cX6_goRound 12 = .ok (.aload_n 0, 1) := by decide +kernel
theorem dX6_goRound_13 : decode cX6_goRound 13 = .ok (.invokevirtual 84, 3) := by decide +kernel
theorem dX6_goRound_16 : decode cX6_goRound 16 = .ok (.ifCond .ne 91, 3) := by decide +kernel
theorem dX6_goRound_19 : decode cX6_goRound 19 = .ok (.aload_n 0, 1) := by decide +kernel
theorem dX6_goRound_20 : decode cX6_goRound 20 = .ok (.aload_n 1, 1) := by decide +kernel
theorem dX6_goRound_21 : decode cX6_goRound 21 = .ok (.iload 6, 2) := by decide +kernel
theorem dX6_goRound_23 : decode cX6_goRound 23 = .ok (.iload 4, 2) := by decide +kernel
theorem dX6_goRound_25 : decode cX6_goRound 25 = .ok (.invokevirtual 88, 3) := by decide +kernel
theorem dX6_goRound_28 : decode cX6_goRound 28 = .ok (.istore 6, 2) := by decide +kernel
theorem dX6_goRound_30 : decode cX6_goRound 30 = .ok (.iload 6, 2) := by decide +kernel
theorem dX6_goRound_32 : decode cX6_goRound 32 = .ok (.iconst (-1), 1) := by decide +kernel
theorem dX6_goRound_33 : decode cX6_goRound 33 = .ok (.if_icmp .ne 4, 3) := by decide +kernel
theorem dX6_goRound_36 : decode cX6_goRound 36 = .ok (.return_, 1) := by decide +kernel
theorem dX6_goRound_37 : decode cX6_goRound 37 = .ok (.aload_n 0, 1) := by decide +kernel
theorem dX6_goRound_38 : decode cX6_goRound 38 = .ok (.dup, 1) := by decide +kernel
theorem dX6_goRound_39 : decode cX6_goRound 39 = .ok (.getfield 52, 3) := by decide +kernel
theorem dX6_goRound_42 : decode cX6_goRound 42 = .ok (.iconst 1, 1) := by decide +kernel
theorem dX6_goRound_43 : decode cX6_goRound 43 = .ok (.iadd, 1) := by decide +kernel
theorem dX6_goRound_44 : decode cX6_goRound 44 = .ok (.putfield 52, 3) := by decide +kernel
theorem dX6_goRound_47 : decode cX6_goRound 47 = .ok (.iload_n 2, 1) := by decide +kernel
theorem dX6_goRound_48 : decode cX6_goRound 48 = .ok (.ifCond .le 19, 3) := by decide +kernel
theorem dX6_goRound_51 : decode cX6_goRound 51 = .ok (.aload_n 0, 1) := by decide +kernel
theorem dX6_goRound_52 : decode cX6_goRound 52 = .ok (.getfield 52, 3) := by decide +kernel
theorem dX6_goRound_55 : decode cX6_goRound 55 = .ok (.iload_n 2, 1) := by decide +kernel
theorem dX6_goRound_56 : decode cX6_goRound 56 = .ok (.irem, 1) := by decide +kernel
theorem dX6_goRound_57 : decode cX6_goRound 57 = .ok (.ifCond .ne 10, 3) := by decide +kernel
theorem dX6_goRound_60 : decode cX6_goRound 60 = .ok (.aload_n 0, 1) := by decide +kernel
theorem dX6_goRound_61 : decode cX6_goRound 61 = .ok (.invokevirtual 92, 3) := by decide +kernel
theorem dX6_goRound_64 : decode cX6_goRound 64 = .ok (.goto 9, 3) := by decide +kernel
theorem dX6_goRound_67 : decode cX6_goRound 67 = .ok (.aload_n 0, 1) := by decide +kernel
theorem dX6_goRound_68 : decode cX6_goRound 68 = .ok (.iload 6, 2) := by decide +kernel
theorem dX6_goRound_70 : decode cX6_goRound 70 = .ok (.invokevirtual 95, 3) := by decide +kernel
theorem dX6_goRound_73 : decode cX6_goRound 73 = .ok (.aload_n 0, 1) := by decide +kernel
theorem dX6_goRound_74 : decode cX6_goRound 74 = .ok (.aload_n 0, 1) := by decide +kernel
theorem dX6_goRound_75 : decode cX6_goRound 75 = .ok (.getfield 27, 3) := by decide +kernel
theorem dX6_goRound_78 : decode cX6_goRound 78 = .ok (.iload 6, 2) := by decide +kernel
theorem dX6_goRound_80 : decode cX6_goRound 80 = .ok (.invokevirtual 99, 3) := by decide +kernel
theorem dX6_goRound_83 : decode cX6_goRound 83 = .ok (.invokevirtual 103, 3) := by decide +kernel
theorem dX6_goRound_86 : decode cX6_goRound 86 = .ok (.invokevirtual 108, 3) := by decide +kernel
theorem dX6_goRound_89 : decode cX6_goRound 89 = .ok (.aload_n 0, 1) := by decide +kernel
theorem dX6_goRound_90 : decode cX6_goRound 90 = .ok (.getfield 27, 3) := by decide +kernel
theorem dX6_goRound_93 : decode cX6_goRound 93 = .ok (.iload 6, 2) := by decide +kernel
theorem dX6_goRound_95 : decode cX6_goRound 95 = .ok (.aload_n 1, 1) := by decide +kernel
theorem dX6_goRound_96 : decode cX6_goRound 96 = .ok (.getfield 111, 3) := by decide +kernel
theorem dX6_goRound_99 : decode cX6_goRound 99 = .ok (.invokevirtual 115, 3) := by decide +kernel
theorem dX6_goRound_102 : decode cX6_goRound 102 = .ok (.istore 6, 2) := by decide +kernel
theorem dX6_goRound_104 : decode cX6_goRound 104 = .ok (.goto (-101), 3) := by decide +kernel
theorem dX6_goRound_107 : decode cX6_goRound 107 = .ok (.return_, 1) := by decide +kernel
theorem dX6_goBothWays_0 : decode cX6_goBothWays 0 = .ok (.aload_n 0, 1) := by decide +kernel
theorem dX6_goBothWays_1 : decode cX6_goBothWays 1 = .ok (.getfield 27, 3) := by decide +kernel
theorem dX6_goBothWays_4 : decode cX6_goBothWays 4 = .ok (.getfield 119, 3) := by decide +kernel
theorem dX6_goBothWays_7 : decode cX6_goBothWays 7 = .ok (.invokevirtual 123, 3) := by decide +kernel
theorem dX6_goBothWays_10 : decode cX6_goBothWays 10 = .ok (.istore_n 2, 1) := by decide +kernel
theorem dX6_goBothWays_11 : decode cX6_goBothWays 11 = .ok (.iload_n 2, 1) := by decide +kernel
theorem dX6_goBothWays_12 : decode cX6_goBothWays 12 = .ok (.ifCond .eq 14, 3) := by decide +kernel
theorem dX6_goBothWays_15 : decode cX6_goBothWays 15 = .ok (.aload_n 0, 1) := by decide +kernel
theorem dX6_goBothWays_16 : decode cX6_goBothWays 16 = .ok (.getfield 27, 3) := by decide +kernel
theorem dX6_goBothWays_19 : decode cX6_goBothWays 19 = .ok (.invokevirtual 128, 3) := by decide +kernel
theorem dX6_goBothWays_22 : decode cX6_goBothWays 22 = .ok (.iload_n 2, 1) := by decide +kernel
theorem dX6_goBothWays_23 : decode cX6_goBothWays 23 = .ok (.if_icmp .ne 4, 3) := by decide +kernel
theorem dX6_goBothWays_26 : decode cX6_goBothWays 26 = .ok (.return_, 1) := by decide +kernel
theorem dX6_goBothWays_27 : decode cX6_goBothWays 27 = .ok (.iload_n 1, 1) := by decide +kernel
theorem dX6_goBothWays_28 : decode cX6_goBothWays 28 = .ok (.istore_n 3, 1) := by decide +kernel
theorem dX6_goBothWays_29 : decode cX6_goBothWays 29 = .ok (.iload_n 1, 1) := by decide +kernel
theorem dX6_goBothWays_30 : decode cX6_goBothWays 30 = .ok (.iload_n 2, 1) := by decide +kernel
theorem dX6_goBothWays_31 : decode cX6_goBothWays 31 = .ok (.iconst 2, 1) := by decide +kernel
theorem dX6_goBothWays_32 : decode cX6_goBothWays 32 = .ok (.idiv, 1) := by decide +kernel
theorem dX6_goBothWays_33 : decode cX6_goBothWays 33 = .ok (.iadd, 1) := by decide +kernel
theorem dX6_goBothWays_34 : decode cX6_goBothWays 34 = .ok (.iload_n 2, 1) := by decide +kernel
theorem dX6_goBothWays_35 : decode cX6_goBothWays 35 = .ok (.irem, 1) := by decide +kernel
theorem dX6_goBothWays_36 : decode cX6_goBothWays 36 = .ok (.istore 4, 2) := by decide +kernel
theorem dX6_goBothWays_38 : decode cX6_goBothWays 38 = .ok (.iconst 1, 1) := by decide +kernel
theorem dX6_goBothWays_39 : decode cX6_goBothWays 39 = .ok (.istore 5, 2) := by decide +kernel
theorem dX6_goBothWays_41 : decode cX6_goBothWays 41 = .ok (.aload_n 0, 1) := by decide +kernel
theorem dX6_goBothWays_42 : decode cX6_goBothWays 42 = .ok (.getfield 52, 3) := by decide +kernel
theorem dX6_goBothWays_45 : decode cX6_goBothWays 45 = .ok (.sipush 300, 3) := by decide +kernel
theorem dX6_goBothWays_48 : decode cX6_goBothWays 48 = .ok (.if_icmp .ge 96, 3) := by decide +kernel
theorem dX6_goBothWays_51 : decode cX6_goBothWays 51 = .ok (.aload_n 0, 1) := by decide +kernel
theorem dX6_goBothWays_52 : decode cX6_goBothWays 52 = .ok (.invokevirtual 84, 3) := by decide +kernel
theorem dX6_goBothWays_55 : decode cX6_goBothWays 55 = .ok (.ifCond .ne 89, 3) := by decide +kernel
theorem dX6_goBothWays_58 : decode cX6_goBothWays 58 = .ok (.aload_n 0, 1) := by decide +kernel
theorem dX6_goBothWays_59 : decode cX6_goBothWays 59 = .ok (.iload_n 3, 1) := by decide +kernel
theorem dX6_goBothWays_60 : decode cX6_goBothWays 60 = .ok (.iload 5, 2) := by decide +kernel
theorem dX6_goBothWays_62 : decode cX6_goBothWays 62 = .ok (.invokevirtual 131, 3) := by decide +kernel
theorem dX6_goBothWays_65 : decode cX6_goBothWays 65 = .ok (.istore_n 3, 1) := by decide +kernel
theorem dX6_goBothWays_66 : decode cX6_goBothWays 66 = .ok (.aload_n 0, 1) := by decide +kernel
theorem dX6_goBothWays_67 : decode cX6_goBothWays 67 = .ok (.dup, 1) := by decide +kernel
theorem dX6_goBothWays_68 : decode cX6_goBothWays 68 = .ok (.getfield 52, 3) := by decide +kernel
theorem dX6_goBothWays_71 : decode cX6_goBothWays 71 = .ok (.iconst 1, 1) := by decide +kernel
theorem dX6_goBothWays_72 : decode cX6_goBothWays 72 = .ok (.iadd, 1) := by decide +kernel
theorem dX6_goBothWays_73 : decode cX6_goBothWays 73 = .ok (.putfield 52, 3) := by decide +kernel
theorem dX6_goBothWays_76 : decode cX6_goBothWays 76 = .ok (.iload_n 3, 1) := by decide +kernel
theorem dX6_goBothWays_77 : decode cX6_goBothWays 77 = .ok (.iload 4, 2) := by decide +kernel
theorem dX6_goBothWays_79 : decode cX6_goBothWays 79 = .ok (.if_icmp .ne 11, 3) := by decide +kernel
theorem dX6_goBothWays_82 : decode cX6_goBothWays 82 = .ok (.aload_n 0, 1) := by decide +kernel
theorem dX6_goBothWays_83 : decode cX6_goBothWays 83 = .ok (.iconst 1, 1) := by decide +kernel
theorem dX6_goBothWays_84 : decode cX6_goBothWays 84 = .ok (.invokevirtual 108, 3) := by decide +kernel
theorem dX6_goBothWays_87 : decode cX6_goBothWays 87 = .ok (.goto 23, 3) := by decide +kernel
theorem dX6_goBothWays_90 : decode cX6_goBothWays 90 = .ok (.aload_n 0, 1) := by decide +kernel
theorem dX6_goBothWays_91 : decode cX6_goBothWays 91 = .ok (.iload_n 3, 1) := by decide +kernel
theorem dX6_goBothWays_92 : decode cX6_goBothWays 92 = .ok (.invokevirtual 95, 3) := by decide +kernel
theorem dX6_goBothWays_95 : decode cX6_goBothWays 95 = .ok (.aload_n 0, 1) := by decide +kernel
theorem dX6_goBothWays_96 : decode cX6_goBothWays 96 = .ok (.aload_n 0, 1) := by decide +kernel
theorem dX6_goBothWays_97 : decode cX6_goBothWays 97 = .ok (.getfield 27, 3) := by decide +kernel
theorem dX6_goBothWays_100 : decode cX6_goBothWays 100 = .ok (.iload_n 3, 1) := by decide +kernel
theorem dX6_goBothWays_101 : decode cX6_goBothWays 101 = .ok (.invokevirtual 99, 3) := by decide +kernel
theorem dX6_goBothWays_104 : decode cX6_goBothWays 104 = .ok (.invokevirtual 103, 3) := by decide +kernel
theorem dX6_goBothWays_107 : decode cX6_goBothWays 107 = .ok (.invokevirtual 108, 3) := by decide +kernel
theorem dX6_goBothWays_110 : decode cX6_goBothWays 110 = .ok (.aload_n 0, 1) := by decide +kernel
theorem dX6_goBothWays_111 : decode cX6_goBothWays 111 = .ok (.getfield 27, 3) := by decide +kernel
theorem dX6_goBothWays_114 : decode cX6_goBothWays 114 = .ok (.iload_n 3, 1) := by decide +kernel
theorem dX6_goBothWays_115 : decode cX6_goBothWays 115 = .ok (.iload 5, 2) := by decide +kernel
theorem dX6_goBothWays_117 : decode cX6_goBothWays 117 = .ok (.invokevirtual 115, 3) := by decide +kernel
theorem dX6_goBothWays_120 : decode cX6_goBothWays 120 = .ok (.istore 6, 2) := by decide +kernel
theorem dX6_goBothWays_122 : decode cX6_goBothWays 122 = .ok (.iload 4, 2) := by decide +kernel
theorem dX6_goBothWays_124 : decode cX6_goBothWays 124 = .ok (.istore_n 3, 1) := by decide +kernel
theorem dX6_goBothWays_125 : decode cX6_goBothWays 125 = .ok (.iload 6, 2) := by decide +kernel
theorem dX6_goBothWays_127 : decode cX6_goBothWays 127 = .ok (.istore 4, 2) := by decide +kernel
theorem dX6_goBothWays_129 : decode cX6_goBothWays 129 = .ok (.iload 5, 2) := by decide +kernel
theorem dX6_goBothWays_131 : decode cX6_goBothWays 131 = .ok (.ifCond .ne 7, 3) := by decide +kernel
theorem dX6_goBothWays_134 : decode cX6_goBothWays 134 = .ok (.iconst 1, 1) := by decide +kernel
theorem dX6_goBothWays_135 : decode cX6_goBothWays 135 = .ok (.goto 4, 3) := by decide +kernel
theorem dX6_goBothWays_138 : decode cX6_goBothWays 138 = .ok (.iconst 0, 1) := by decide +kernel
theorem dX6_goBothWays_139 : decode cX6_goBothWays 139 = .ok (.istore 5, 2) := by decide +kernel
theorem dX6_goBothWays_141 : decode cX6_goBothWays 141 = .ok (.goto (-100), 3) := by decide +kernel
theorem dX6_goBothWays_144 : decode cX6_goBothWays 144 = .ok (.return_, 1) := by decide +kernel
theorem dX6_told_0 : decode cX6_told 0 = .ok (.iload_n 1, 1) := by decide +kernel
theorem dX6_told_1 : decode cX6_told 1 = .ok (.tableswitch 70 0 4 #[35, 42, 49, 56, 63], 35) := by decide +kernel
theorem dX6_told_36 : decode cX6_told 36 = .ok (.aload_n 0, 1) := by decide +kernel
theorem dX6_told_37 : decode cX6_told 37 = .ok (.getfield 52, 3) := by decide +kernel
theorem dX6_told_40 : decode cX6_told 40 = .ok (.goto 35, 3) := by decide +kernel
theorem dX6_told_43 : decode cX6_told 43 = .ok (.aload_n 0, 1) := by decide +kernel
theorem dX6_told_44 : decode cX6_told 44 = .ok (.getfield 55, 3) := by decide +kernel
theorem dX6_told_47 : decode cX6_told 47 = .ok (.goto 28, 3) := by decide +kernel
theorem dX6_told_50 : decode cX6_told 50 = .ok (.aload_n 0, 1) := by decide +kernel
theorem dX6_told_51 : decode cX6_told 51 = .ok (.getfield 49, 3) := by decide +kernel
theorem dX6_told_54 : decode cX6_told 54 = .ok (.goto 21, 3) := by decide +kernel
theorem dX6_told_57 : decode cX6_told 57 = .ok (.aload_n 0, 1) := by decide +kernel
theorem dX6_told_58 : decode cX6_told 58 = .ok (.getfield 58, 3) := by decide +kernel
theorem dX6_told_61 : decode cX6_told 61 = .ok (.goto 14, 3) := by decide +kernel
theorem dX6_told_64 : decode cX6_told 64 = .ok (.aload_n 0, 1) := by decide +kernel
theorem dX6_told_65 : decode cX6_told 65 = .ok (.getfield 61, 3) := by decide +kernel
theorem dX6_told_68 : decode cX6_told 68 = .ok (.goto 7, 3) := by decide +kernel
theorem dX6_told_71 : decode cX6_told 71 = .ok (.aload_n 0, 1) := by decide +kernel
theorem dX6_told_72 : decode cX6_told 72 = .ok (.getfield 44, 3) := by decide +kernel
theorem dX6_told_75 : decode cX6_told 75 = .ok (.ireturn, 1) := by decide +kernel
theorem dX6_leastSurplus_0 : decode cX6_leastSurplus 0 = .ok (.iconst 0, 1) := by decide +kernel
theorem dX6_leastSurplus_1 : decode cX6_leastSurplus 1 = .ok (.istore_n 1, 1) := by decide +kernel
theorem dX6_leastSurplus_2 : decode cX6_leastSurplus 2 = .ok (.iconst 0, 1) := by decide +kernel
theorem dX6_leastSurplus_3 : decode cX6_leastSurplus 3 = .ok (.istore_n 2, 1) := by decide +kernel
theorem dX6_leastSurplus_4 : decode cX6_leastSurplus 4 = .ok (.iconst 0, 1) := by decide +kernel
theorem dX6_leastSurplus_5 : decode cX6_leastSurplus 5 = .ok (.istore_n 3, 1) := by decide +kernel
theorem dX6_leastSurplus_6 : decode cX6_leastSurplus 6 = .ok (.iload_n 3, 1) := by decide +kernel
theorem dX6_leastSurplus_7 : decode cX6_leastSurplus 7 = .ok (.aload_n 0, 1) := by decide +kernel
theorem dX6_leastSurplus_8 : decode cX6_leastSurplus 8 = .ok (.getfield 27, 3) := by decide +kernel
theorem dX6_leastSurplus_11 : decode cX6_leastSurplus 11 = .ok (.getfield 119, 3) := by decide +kernel
theorem dX6_leastSurplus_14 : decode cX6_leastSurplus 14 = .ok (.invokevirtual 123, 3) := by decide +kernel
theorem dX6_leastSurplus_17 : decode cX6_leastSurplus 17 = .ok (.if_icmp .ge 61, 3) := by decide +kernel
theorem dX6_leastSurplus_20 : decode cX6_leastSurplus 20 = .ok (.aload_n 0, 1) := by decide +kernel
theorem dX6_leastSurplus_21 : decode cX6_leastSurplus 21 = .ok (.getfield 15, 3) := by decide +kernel
theorem dX6_leastSurplus_24 : decode cX6_leastSurplus 24 = .ok (.iload_n 3, 1) := by decide +kernel
theorem dX6_leastSurplus_25 : decode cX6_leastSurplus 25 = .ok (.iaload, 1) := by decide +kernel
theorem dX6_leastSurplus_26 : decode cX6_leastSurplus 26 = .ok (.aload_n 0, 1) := by decide +kernel
theorem dX6_leastSurplus_27 : decode cX6_leastSurplus 27 = .ok (.getfield 27, 3) := by decide +kernel
theorem dX6_leastSurplus_30 : decode cX6_leastSurplus 30 = .ok (.getfield 119, 3) := by decide +kernel
theorem dX6_leastSurplus_33 : decode cX6_leastSurplus 33 = .ok (.iload_n 3, 1) := by decide +kernel
theorem dX6_leastSurplus_34 : decode cX6_leastSurplus 34 = .ok (.invokevirtual 134, 3) := by decide +kernel
theorem dX6_leastSurplus_37 : decode cX6_leastSurplus 37 = .ok (.checkcast 104, 3) := by decide +kernel
theorem dX6_leastSurplus_40 : decode cX6_leastSurplus 40 = .ok (.getfield 138, 3) := by decide +kernel
theorem dX6_leastSurplus_43 : decode cX6_leastSurplus 43 = .ok (.isub, 1) := by decide +kernel
theorem dX6_leastSurplus_44 : decode cX6_leastSurplus 44 = .ok (.istore 4, 2) := by decide +kernel
theorem dX6_leastSurplus_46 : decode cX6_leastSurplus 46 = .ok (.aload_n 0, 1) := by decide +kernel
theorem dX6_leastSurplus_47 : decode cX6_leastSurplus 47 = .ok (.getfield 27, 3) := by decide +kernel
theorem dX6_leastSurplus_50 : decode cX6_leastSurplus 50 = .ok (.iload_n 3, 1) := by decide +kernel
theorem dX6_leastSurplus_51 : decode cX6_leastSurplus 51 = .ok (.invokevirtual 141, 3) := by decide +kernel
theorem dX6_leastSurplus_54 : decode cX6_leastSurplus 54 = .ok (.ifCond .ne 18, 3) := by decide +kernel
theorem dX6_leastSurplus_57 : decode cX6_leastSurplus 57 = .ok (.iload_n 1, 1) := by decide +kernel
theorem dX6_leastSurplus_58 : decode cX6_leastSurplus 58 = .ok (.ifCond .eq 9, 3) := by decide +kernel
theorem dX6_leastSurplus_61 : decode cX6_leastSurplus 61 = .ok (.iload 4, 2) := by decide +kernel
theorem dX6_leastSurplus_63 : decode cX6_leastSurplus 63 = .ok (.iload_n 2, 1) := by decide +kernel
theorem dX6_leastSurplus_64 : decode cX6_leastSurplus 64 = .ok (.if_icmp .ge 8, 3) := by decide +kernel
theorem dX6_leastSurplus_67 : decode cX6_leastSurplus 67 = .ok (.iconst 1, 1) := by decide +kernel
theorem dX6_leastSurplus_68 : decode cX6_leastSurplus 68 = .ok (.istore_n 1, 1) := by decide +kernel
theorem dX6_leastSurplus_69 : decode cX6_leastSurplus 69 = .ok (.iload 4, 2) := by decide +kernel
theorem dX6_leastSurplus_71 : decode cX6_leastSurplus 71 = .ok (.istore_n 2, 1) := by decide +kernel
theorem dX6_leastSurplus_72 : decode cX6_leastSurplus 72 = .ok (.iinc 3 1, 3) := by decide +kernel
theorem dX6_leastSurplus_75 : decode cX6_leastSurplus 75 = .ok (.goto (-69), 3) := by decide +kernel
theorem dX6_leastSurplus_78 : decode cX6_leastSurplus 78 = .ok (.iload_n 2, 1) := by decide +kernel
theorem dX6_leastSurplus_79 : decode cX6_leastSurplus 79 = .ok (.ireturn, 1) := by decide +kernel
theorem dX6_isOver_0 : decode cX6_isOver 0 = .ok (.aload_n 0, 1) := by decide +kernel
theorem dX6_isOver_1 : decode cX6_isOver 1 = .ok (.getfield 49, 3) := by decide +kernel
theorem dX6_isOver_4 : decode cX6_isOver 4 = .ok (.ifCond .eq 13, 3) := by decide +kernel
theorem dX6_isOver_7 : decode cX6_isOver 7 = .ok (.aload_n 0, 1) := by decide +kernel
theorem dX6_isOver_8 : decode cX6_isOver 8 = .ok (.getfield 55, 3) := by decide +kernel
theorem dX6_isOver_11 : decode cX6_isOver 11 = .ok (.sipush 300, 3) := by decide +kernel
theorem dX6_isOver_14 : decode cX6_isOver 14 = .ok (.if_icmp .lt 7, 3) := by decide +kernel
theorem dX6_isOver_17 : decode cX6_isOver 17 = .ok (.iconst 1, 1) := by decide +kernel
theorem dX6_isOver_18 : decode cX6_isOver 18 = .ok (.goto 4, 3) := by decide +kernel
theorem dX6_isOver_21 : decode cX6_isOver 21 = .ok (.iconst 0, 1) := by decide +kernel
theorem dX6_isOver_22 : decode cX6_isOver 22 = .ok (.ireturn, 1) := by decide +kernel
theorem dX6_seatServed_0 : decode cX6_seatServed 0 = .ok (.iload_n 2, 1) := by decide +kernel
theorem dX6_seatServed_1 : decode cX6_seatServed 1 = .ok (.istore 4, 2) := by decide +kernel
theorem dX6_seatServed_3 : decode cX6_seatServed 3 = .ok (.iconst 0, 1) := by decide +kernel
theorem dX6_seatServed_4 : decode cX6_seatServed 4 = .ok (.istore 5, 2) := by decide +kernel
theorem dX6_seatServed_6 : decode cX6_seatServed 6 = .ok (.iload 5, 2) := by decide +kernel
theorem dX6_seatServed_8 : decode cX6_seatServed 8 = .ok (.aload_n 0, 1) := by decide +kernel
theorem dX6_seatServed_9 : decode cX6_seatServed 9 = .ok (.getfield 27, 3) := by decide +kernel
theorem dX6_seatServed_12 : decode cX6_seatServed 12 = .ok (.getfield 119, 3) := by decide +kernel
theorem dX6_seatServed_15 : decode cX6_seatServed 15 = .ok (.invokevirtual 123, 3) := by decide +kernel
theorem dX6_seatServed_18 : decode cX6_seatServed 18 = .ok (.if_icmp .ge 46, 3) := by decide +kernel
theorem dX6_seatServed_21 : decode cX6_seatServed 21 = .ok (.aload_n 0, 1) := by decide +kernel
theorem dX6_seatServed_22 : decode cX6_seatServed 22 = .ok (.aload_n 1, 1) := by decide +kernel
theorem dX6_seatServed_23 : decode cX6_seatServed 23 = .ok (.aload_n 0, 1) := by decide +kernel
theorem dX6_seatServed_24 : decode cX6_seatServed 24 = .ok (.getfield 27, 3) := by decide +kernel
theorem dX6_seatServed_27 : decode cX6_seatServed 27 = .ok (.getfield 145, 3) := by decide +kernel
theorem dX6_seatServed_30 : decode cX6_seatServed 30 = .ok (.iload 4, 2) := by decide +kernel
theorem dX6_seatServed_32 : decode cX6_seatServed 32 = .ok (.iaload, 1) := by decide +kernel
theorem dX6_seatServed_33 : decode cX6_seatServed 33 = .ok (.iload_n 3, 1) := by decide +kernel
theorem dX6_seatServed_34 : decode cX6_seatServed 34 = .ok (.invokevirtual 148, 3) := by decide +kernel
theorem dX6_seatServed_37 : decode cX6_seatServed 37 = .ok (.ifCond .ne 6, 3) := by decide +kernel
theorem dX6_seatServed_40 : decode cX6_seatServed 40 = .ok (.iload 4, 2) := by decide +kernel
theorem dX6_seatServed_42 : decode cX6_seatServed 42 = .ok (.ireturn, 1) := by decide +kernel
theorem dX6_seatServed_43 : decode cX6_seatServed 43 = .ok (.aload_n 0, 1) := by decide +kernel
theorem dX6_seatServed_44 : decode cX6_seatServed 44 = .ok (.getfield 27, 3) := by decide +kernel
theorem dX6_seatServed_47 : decode cX6_seatServed 47 = .ok (.iload 4, 2) := by decide +kernel
theorem dX6_seatServed_49 : decode cX6_seatServed 49 = .ok (.aload_n 1, 1) := by decide +kernel
theorem dX6_seatServed_50 : decode cX6_seatServed 50 = .ok (.getfield 111, 3) := by decide +kernel
theorem dX6_seatServed_53 : decode cX6_seatServed 53 = .ok (.invokevirtual 115, 3) := by decide +kernel
theorem dX6_seatServed_56 : decode cX6_seatServed 56 = .ok (.istore 4, 2) := by decide +kernel
theorem dX6_seatServed_58 : decode cX6_seatServed 58 = .ok (.iinc 5 1, 3) := by decide +kernel
theorem dX6_seatServed_61 : decode cX6_seatServed 61 = .ok (.goto (-55), 3) := by decide +kernel
theorem dX6_seatServed_64 : decode cX6_seatServed 64 = .ok (.iconst (-1), 1) := by decide +kernel
theorem dX6_seatServed_65 : decode cX6_seatServed 65 = .ok (.ireturn, 1) := by decide +kernel
theorem dX6_isSkipped_0 : decode cX6_isSkipped 0 = .ok (.aload_n 0, 1) := by decide +kernel
theorem dX6_isSkipped_1 : decode cX6_isSkipped 1 = .ok (.getfield 27, 3) := by decide +kernel
theorem dX6_isSkipped_4 : decode cX6_isSkipped 4 = .ok (.iload_n 2, 1) := by decide +kernel
theorem dX6_isSkipped_5 : decode cX6_isSkipped 5 = .ok (.invokevirtual 141, 3) := by decide +kernel
theorem dX6_isSkipped_8 : decode cX6_isSkipped 8 = .ok (.ifCond .ne 59, 3) := by decide +kernel
theorem dX6_isSkipped_11 : decode cX6_isSkipped 11 = .ok (.iload_n 3, 1) := by decide +kernel
theorem dX6_isSkipped_12 : decode cX6_isSkipped 12 = .ok (.iload_n 2, 1) := by decide +kernel
theorem dX6_isSkipped_13 : decode cX6_isSkipped 13 = .ok (.ishr, 1) := by decide +kernel
theorem dX6_isSkipped_14 : decode cX6_isSkipped 14 = .ok (.iconst 1, 1) := by decide +kernel
theorem dX6_isSkipped_15 : decode cX6_isSkipped 15 = .ok (.iand, 1) := by decide +kernel
theorem dX6_isSkipped_16 : decode cX6_isSkipped 16 = .ok (.ifCond .ne 51, 3) := by decide +kernel
theorem dX6_isSkipped_19 : decode cX6_isSkipped 19 = .ok (.aload_n 1, 1) := by decide +kernel
theorem dX6_isSkipped_20 : decode cX6_isSkipped 20 = .ok (.getfield 152, 3) := by decide +kernel
theorem dX6_isSkipped_23 : decode cX6_isSkipped 23 = .ok (.ifCond .le 16, 3) := by decide +kernel
theorem dX6_isSkipped_26 : decode cX6_isSkipped 26 = .ok (.aload_n 0, 1) := by decide +kernel
theorem dX6_isSkipped_27 : decode cX6_isSkipped 27 = .ok (.getfield 18, 3) := by decide +kernel
theorem dX6_isSkipped_30 : decode cX6_isSkipped 30 = .ok (.iload_n 2, 1) := by decide +kernel
theorem dX6_isSkipped_31 : decode cX6_isSkipped 31 = .ok (.iaload, 1) := by decide +kernel
theorem dX6_isSkipped_32 : decode cX6_isSkipped 32 = .ok (.aload_n 1, 1) := by decide +kernel
theorem dX6_isSkipped_33 : decode cX6_isSkipped 33 = .ok (.getfield 152, 3) := by decide +kernel
theorem dX6_isSkipped_36 : decode cX6_isSkipped 36 = .ok (.if_icmp .ge 31, 3) := by decide +kernel
theorem dX6_isSkipped_39 : decode cX6_isSkipped 39 = .ok (.aload_n 1, 1) := by decide +kernel
theorem dX6_isSkipped_40 : decode cX6_isSkipped 40 = .ok (.getfield 155, 3) := by decide +kernel
theorem dX6_isSkipped_43 : decode cX6_isSkipped 43 = .ok (.ifCond .eq 28, 3) := by decide +kernel
theorem dX6_isSkipped_46 : decode cX6_isSkipped 46 = .ok (.aload_n 0, 1) := by decide +kernel
theorem dX6_isSkipped_47 : decode cX6_isSkipped 47 = .ok (.getfield 27, 3) := by decide +kernel
theorem dX6_isSkipped_50 : decode cX6_isSkipped 50 = .ok (.getfield 119, 3) := by decide +kernel
theorem dX6_isSkipped_53 : decode cX6_isSkipped 53 = .ok (.iload_n 2, 1) := by decide +kernel
theorem dX6_isSkipped_54 : decode cX6_isSkipped 54 = .ok (.invokevirtual 134, 3) := by decide +kernel
theorem dX6_isSkipped_57 : decode cX6_isSkipped 57 = .ok (.checkcast 104, 3) := by decide +kernel
theorem dX6_isSkipped_60 : decode cX6_isSkipped 60 = .ok (.iconst 2, 1) := by decide +kernel
theorem dX6_isSkipped_61 : decode cX6_isSkipped 61 = .ok (.invokevirtual 158, 3) := by decide +kernel
theorem dX6_isSkipped_64 : decode cX6_isSkipped 64 = .ok (.ifCond .eq 7, 3) := by decide +kernel
theorem dX6_isSkipped_67 : decode cX6_isSkipped 67 = .ok (.iconst 1, 1) := by decide +kernel
theorem dX6_isSkipped_68 : decode cX6_isSkipped 68 = .ok (.goto 4, 3) := by decide +kernel
theorem dX6_isSkipped_71 : decode cX6_isSkipped 71 = .ok (.iconst 0, 1) := by decide +kernel
theorem dX6_isSkipped_72 : decode cX6_isSkipped 72 = .ok (.ireturn, 1) := by decide +kernel
theorem dX6_seatAlive_0 : decode cX6_seatAlive 0 = .ok (.iload_n 1, 1) := by decide +kernel
theorem dX6_seatAlive_1 : decode cX6_seatAlive 1 = .ok (.istore_n 3, 1) := by decide +kernel
theorem dX6_seatAlive_2 : decode cX6_seatAlive 2 = .ok (.iconst 0, 1) := by decide +kernel
theorem dX6_seatAlive_3 : decode cX6_seatAlive 3 = .ok (.istore 4, 2) := by decide +kernel
theorem dX6_seatAlive_5 : decode cX6_seatAlive 5 = .ok (.iload 4, 2) := by decide +kernel
theorem dX6_seatAlive_7 : decode cX6_seatAlive 7 = .ok (.aload_n 0, 1) := by decide +kernel
theorem dX6_seatAlive_8 : decode cX6_seatAlive 8 = .ok (.getfield 27, 3) := by decide +kernel
theorem dX6_seatAlive_11 : decode cX6_seatAlive 11 = .ok (.getfield 119, 3) := by decide +kernel
theorem dX6_seatAlive_14 : decode cX6_seatAlive 14 = .ok (.invokevirtual 123, 3) := by decide +kernel
theorem dX6_seatAlive_17 : decode cX6_seatAlive 17 = .ok (.if_icmp .ge 38, 3) := by decide +kernel
theorem dX6_seatAlive_20 : decode cX6_seatAlive 20 = .ok (.aload_n 0, 1) := by decide +kernel
theorem dX6_seatAlive_21 : decode cX6_seatAlive 21 = .ok (.getfield 27, 3) := by decide +kernel
theorem dX6_seatAlive_24 : decode cX6_seatAlive 24 = .ok (.aload_n 0, 1) := by decide +kernel
theorem dX6_seatAlive_25 : decode cX6_seatAlive 25 = .ok (.getfield 27, 3) := by decide +kernel
theorem dX6_seatAlive_28 : decode cX6_seatAlive 28 = .ok (.getfield 145, 3) := by decide +kernel
theorem dX6_seatAlive_31 : decode cX6_seatAlive 31 = .ok (.iload_n 3, 1) := by decide +kernel
theorem dX6_seatAlive_32 : decode cX6_seatAlive 32 = .ok (.iaload, 1) := by decide +kernel
theorem dX6_seatAlive_33 : decode cX6_seatAlive 33 = .ok (.invokevirtual 141, 3) := by decide +kernel
theorem dX6_seatAlive_36 : decode cX6_seatAlive 36 = .ok (.ifCond .eq 19, 3) := by decide +kernel
theorem dX6_seatAlive_39 : decode cX6_seatAlive 39 = .ok (.aload_n 0, 1) := by decide +kernel
theorem dX6_seatAlive_40 : decode cX6_seatAlive 40 = .ok (.getfield 27, 3) := by decide +kernel
theorem dX6_seatAlive_43 : decode cX6_seatAlive 43 = .ok (.iload_n 3, 1) := by decide +kernel
theorem dX6_seatAlive_44 : decode cX6_seatAlive 44 = .ok (.iload_n 2, 1) := by decide +kernel
theorem dX6_seatAlive_45 : decode cX6_seatAlive 45 = .ok (.invokevirtual 115, 3) := by decide +kernel
theorem dX6_seatAlive_48 : decode cX6_seatAlive 48 = .ok (.istore_n 3, 1) := by decide +kernel
theorem dX6_seatAlive_49 : decode cX6_seatAlive 49 = .ok (.iinc 4 1, 3) := by decide +kernel
theorem dX6_seatAlive_52 : decode cX6_seatAlive 52 = .ok (.goto (-47), 3) := by decide +kernel
theorem dX6_seatAlive_55 : decode cX6_seatAlive 55 = .ok (.iload_n 3, 1) := by decide +kernel
theorem dX6_seatAlive_56 : decode cX6_seatAlive 56 = .ok (.ireturn, 1) := by decide +kernel
theorem dX6_stir_0 : decode cX6_stir 0 = .ok (.aload_n 0, 1) := by decide +kernel
theorem dX6_stir_1 : decode cX6_stir 1 = .ok (.getfield 49, 3) := by decide +kernel
theorem dX6_stir_4 : decode cX6_stir 4 = .ok (.iconst 5, 1) := by decide +kernel
theorem dX6_stir_5 : decode cX6_stir 5 = .ok (.idiv, 1) := by decide +kernel
theorem dX6_stir_6 : decode cX6_stir 6 = .ok (.istore_n 1, 1) := by decide +kernel
theorem dX6_stir_7 : decode cX6_stir 7 = .ok (.aload_n 0, 1) := by decide +kernel
theorem dX6_stir_8 : decode cX6_stir 8 = .ok (.getfield 49, 3) := by decide +kernel
theorem dX6_stir_11 : decode cX6_stir 11 = .ok (.iconst 5, 1) := by decide +kernel
theorem dX6_stir_12 : decode cX6_stir 12 = .ok (.irem, 1) := by decide +kernel
theorem dX6_stir_13 : decode cX6_stir 13 = .ok (.istore_n 2, 1) := by decide +kernel
theorem dX6_stir_14 : decode cX6_stir 14 = .ok (.iconst 0, 1) := by decide +kernel
theorem dX6_stir_15 : decode cX6_stir 15 = .ok (.istore_n 3, 1) := by decide +kernel
theorem dX6_stir_16 : decode cX6_stir 16 = .ok (.iload_n 3, 1) := by decide +kernel
theorem dX6_stir_17 : decode cX6_stir 17 = .ok (.iconst 5, 1) := by decide +kernel
theorem dX6_stir_18 : decode cX6_stir 18 = .ok (.if_icmp .ge 32, 3) := by decide +kernel
theorem dX6_stir_21 : decode cX6_stir 21 = .ok (.aload_n 0, 1) := by decide +kernel
theorem dX6_stir_22 : decode cX6_stir 22 = .ok (.getfield 9, 3) := by decide +kernel
theorem dX6_stir_25 : decode cX6_stir 25 = .ok (.iload_n 3, 1) := by decide +kernel
theorem dX6_stir_26 : decode cX6_stir 26 = .ok (.iload_n 1, 1) := by decide +kernel
theorem dX6_stir_27 : decode cX6_stir 27 = .ok (.iload_n 3, 1) := by decide +kernel
theorem dX6_stir_28 : decode cX6_stir 28 = .ok (.iconst 5, 1) := by decide +kernel
theorem dX6_stir_29 : decode cX6_stir 29 = .ok (.iload_n 2, 1) := by decide +kernel
theorem dX6_stir_30 : decode cX6_stir 30 = .ok (.isub, 1) := by decide +kernel
theorem dX6_stir_31 : decode cX6_stir 31 = .ok (.if_icmp .lt 7, 3) := by decide +kernel
theorem dX6_stir_34 : decode cX6_stir 34 = .ok (.iconst 1, 1) := by decide +kernel
theorem dX6_stir_35 : decode cX6_stir 35 = .ok (.goto 4, 3) := by decide +kernel
theorem dX6_stir_38 : decode cX6_stir 38 = .ok (.iconst 0, 1) := by decide +kernel
theorem dX6_stir_39 : decode cX6_stir 39 = .ok (.invokestatic 161, 3) := by decide +kernel
theorem dX6_stir_42 : decode cX6_stir 42 = .ok (.iadd, 1) := by decide +kernel
theorem dX6_stir_43 : decode cX6_stir 43 = .ok (.iastore, 1) := by decide +kernel
theorem dX6_stir_44 : decode cX6_stir 44 = .ok (.iinc 3 1, 3) := by decide +kernel
theorem dX6_stir_47 : decode cX6_stir 47 = .ok (.goto (-31), 3) := by decide +kernel
theorem dX6_stir_50 : decode cX6_stir 50 = .ok (.return_, 1) := by decide +kernel
theorem dX6_passTime_0 : decode cX6_passTime 0 = .ok (.aload_n 0, 1) := by decide +kernel
theorem dX6_passTime_1 : decode cX6_passTime 1 = .ok (.dup, 1) := by decide +kernel
theorem dX6_passTime_2 : decode cX6_passTime 2 = .ok (.getfield 55, 3) := by decide +kernel
theorem dX6_passTime_5 : decode cX6_passTime 5 = .ok (.iload_n 1, 1) := by decide +kernel
theorem dX6_passTime_6 : decode cX6_passTime 6 = .ok (.iadd, 1) := by decide +kernel
theorem dX6_passTime_7 : decode cX6_passTime 7 = .ok (.putfield 55, 3) := by decide +kernel
theorem dX6_passTime_10 : decode cX6_passTime 10 = .ok (.aload_n 0, 1) := by decide +kernel
theorem dX6_passTime_11 : decode cX6_passTime 11 = .ok (.aload_n 0, 1) := by decide +kernel
theorem dX6_passTime_12 : decode cX6_passTime 12 = .ok (.getfield 44, 3) := by decide +kernel
theorem dX6_passTime_15 : decode cX6_passTime 15 = .ok (.iload_n 1, 1) := by decide +kernel
theorem dX6_passTime_16 : decode cX6_passTime 16 = .ok (.isub, 1) := by decide +kernel
theorem dX6_passTime_17 : decode cX6_passTime 17 = .ok (.iconst 0, 1) := by decide +kernel
theorem dX6_passTime_18 : decode cX6_passTime 18 = .ok (.invokestatic 165, 3) := by decide +kernel
theorem dX6_passTime_21 : decode cX6_passTime 21 = .ok (.putfield 44, 3) := by decide +kernel
theorem dX6_passTime_24 : decode cX6_passTime 24 = .ok (.return_, 1) := by decide +kernel
theorem dX6_eat_0 : decode cX6_eat 0 = .ok (.aload_n 0, 1) := by decide +kernel
theorem dX6_eat_1 : decode cX6_eat 1 = .ok (.getfield 27, 3) := by decide +kernel
theorem dX6_eat_4 : decode cX6_eat 4 = .ok (.getfield 145, 3) := by decide +kernel
theorem dX6_eat_7 : decode cX6_eat 7 = .ok (.iload_n 1, 1) := by decide +kernel
theorem dX6_eat_8 : decode cX6_eat 8 = .ok (.iaload, 1) := by decide +kernel
theorem dX6_eat_9 : decode cX6_eat 9 = .ok (.istore_n 2, 1) := by decide +kernel
theorem dX6_eat_10 : decode cX6_eat 10 = .ok (.aload_n 0, 1) := by decide +kernel
theorem dX6_eat_11 : decode cX6_eat 11 = .ok (.getfield 21, 3) := by decide +kernel
theorem dX6_eat_14 : decode cX6_eat 14 = .ok (.iload_n 2, 1) := by decide +kernel
theorem dX6_eat_15 : decode cX6_eat 15 = .ok (.dup2, 1) := by decide +kernel
theorem dX6_eat_16 : decode cX6_eat 16 = .ok (.iaload, 1) := by decide +kernel
theorem dX6_eat_17 : decode cX6_eat 17 = .ok (.iconst 1, 1) := by decide +kernel
theorem dX6_eat_18 : decode cX6_eat 18 = .ok (.iadd, 1) := by decide +kernel
theorem dX6_eat_19 : decode cX6_eat 19 = .ok (.iastore, 1) := by decide +kernel
theorem dX6_eat_20 : decode cX6_eat 20 = .ok (.aload_n 0, 1) := by decide +kernel
theorem dX6_eat_21 : decode cX6_eat 21 = .ok (.getfield 27, 3) := by decide +kernel
theorem dX6_eat_24 : decode cX6_eat 24 = .ok (.iload_n 1, 1) := by decide +kernel
theorem dX6_eat_25 : decode cX6_eat 25 = .ok (.invokevirtual 99, 3) := by decide +kernel
theorem dX6_eat_28 : decode cX6_eat 28 = .ok (.aload_n 0, 1) := by decide +kernel
theorem dX6_eat_29 : decode cX6_eat 29 = .ok (.getfield 21, 3) := by decide +kernel
theorem dX6_eat_32 : decode cX6_eat 32 = .ok (.iload_n 2, 1) := by decide +kernel
theorem dX6_eat_33 : decode cX6_eat 33 = .ok (.iaload, 1) := by decide +kernel
theorem dX6_eat_34 : decode cX6_eat 34 = .ok (.invokevirtual 171, 3) := by decide +kernel
theorem dX6_eat_37 : decode cX6_eat 37 = .ok (.iload_n 2, 1) := by decide +kernel
theorem dX6_eat_38 : decode cX6_eat 38 = .ok (.aload_n 0, 1) := by decide +kernel
theorem dX6_eat_39 : decode cX6_eat 39 = .ok (.getfield 64, 3) := by decide +kernel
theorem dX6_eat_42 : decode cX6_eat 42 = .ok (.if_icmp .ne 7, 3) := by decide +kernel
theorem dX6_eat_45 : decode cX6_eat 45 = .ok (.iconst 1, 1) := by decide +kernel
theorem dX6_eat_46 : decode cX6_eat 46 = .ok (.goto 4, 3) := by decide +kernel
theorem dX6_eat_49 : decode cX6_eat 49 = .ok (.iconst 0, 1) := by decide +kernel
theorem dX6_eat_50 : decode cX6_eat 50 = .ok (.invokestatic 161, 3) := by decide +kernel
theorem dX6_eat_53 : decode cX6_eat 53 = .ok (.iadd, 1) := by decide +kernel
theorem dX6_eat_54 : decode cX6_eat 54 = .ok (.istore_n 3, 1) := by decide +kernel
theorem dX6_eat_55 : decode cX6_eat 55 = .ok (.iconst 0, 1) := by decide +kernel
theorem dX6_eat_56 : decode cX6_eat 56 = .ok (.istore 4, 2) := by decide +kernel
theorem dX6_eat_58 : decode cX6_eat 58 = .ok (.iload 4, 2) := by decide +kernel
theorem dX6_eat_60 : decode cX6_eat 60 = .ok (.iload_n 3, 1) := by decide +kernel
theorem dX6_eat_61 : decode cX6_eat 61 = .ok (.if_icmp .ge 22, 3) := by decide +kernel
theorem dX6_eat_64 : decode cX6_eat 64 = .ok (.aload_n 0, 1) := by decide +kernel
theorem dX6_eat_65 : decode cX6_eat 65 = .ok (.getfield 49, 3) := by decide +kernel
theorem dX6_eat_68 : decode cX6_eat 68 = .ok (.ifCond .le 15, 3) := by decide +kernel
theorem dX6_eat_71 : decode cX6_eat 71 = .ok (.aload_n 0, 1) := by decide +kernel
theorem dX6_eat_72 : decode cX6_eat 72 = .ok (.iload_n 2, 1) := by decide +kernel
theorem dX6_eat_73 : decode cX6_eat 73 = .ok (.iload_n 1, 1) := by decide +kernel
theorem dX6_eat_74 : decode cX6_eat 74 = .ok (.invokevirtual 175, 3) := by decide +kernel
theorem dX6_eat_77 : decode cX6_eat 77 = .ok (.iinc 4 1, 3) := by decide +kernel
theorem dX6_eat_80 : decode cX6_eat 80 = .ok (.goto (-22), 3) := by decide +kernel
theorem dX6_eat_83 : decode cX6_eat 83 = .ok (.return_, 1) := by decide +kernel
theorem dX6_takeBite_0 : decode cX6_takeBite 0 = .ok (.aload_n 0, 1) := by decide +kernel
theorem dX6_takeBite_1 : decode cX6_takeBite 1 = .ok (.getfield 27, 3) := by decide +kernel
theorem dX6_takeBite_4 : decode cX6_takeBite 4 = .ok (.iload_n 2, 1) := by decide +kernel
theorem dX6_takeBite_5 : decode cX6_takeBite 5 = .ok (.invokevirtual 99, 3) := by decide +kernel
theorem dX6_takeBite_8 : decode cX6_takeBite 8 = .ok (.astore_n 3, 1) := by decide +kernel
theorem dX6_takeBite_9 : decode cX6_takeBite 9 = .ok (.aload_n 0, 1) := by decide +kernel
theorem dX6_takeBite_10 : decode cX6_takeBite 10 = .ok (.getfield 18, 3) := by decide +kernel
theorem dX6_takeBite_13 : decode cX6_takeBite 13 = .ok (.iload_n 1, 1) := by decide +kernel
theorem dX6_takeBite_14 : decode cX6_takeBite 14 = .ok (.dup2, 1) := by decide +kernel
theorem dX6_takeBite_15 : decode cX6_takeBite 15 = .ok (.iaload, 1) := by decide +kernel
theorem dX6_takeBite_16 : decode cX6_takeBite 16 = .ok (.iconst 1, 1) := by decide +kernel
theorem dX6_takeBite_17 : decode cX6_takeBite 17 = .ok (.iadd, 1) := by decide +kernel
theorem dX6_takeBite_18 : decode cX6_takeBite 18 = .ok (.iastore, 1) := by decide +kernel
theorem dX6_takeBite_19 : decode cX6_takeBite 19 = .ok (.aload_n 3, 1) := by decide +kernel
theorem dX6_takeBite_20 : decode cX6_takeBite 20 = .ok (.aload_n 0, 1) := by decide +kernel
theorem dX6_takeBite_21 : decode cX6_takeBite 21 = .ok (.getfield 18, 3) := by decide +kernel
theorem dX6_takeBite_24 : decode cX6_takeBite 24 = .ok (.iload_n 1, 1) := by decide +kernel
theorem dX6_takeBite_25 : decode cX6_takeBite 25 = .ok (.iaload, 1) := by decide +kernel
theorem dX6_takeBite_26 : decode cX6_takeBite 26 = .ok (.invokevirtual 179, 3) := by decide +kernel
theorem dX6_takeBite_29 : decode cX6_takeBite 29 = .ok (.ifCond .eq 22, 3) := by decide +kernel
theorem dX6_takeBite_32 : decode cX6_takeBite 32 = .ok (.aload_n 0, 1) := by decide +kernel
theorem dX6_takeBite_33 : decode cX6_takeBite 33 = .ok (.getfield 27, 3) := by decide +kernel
theorem dX6_takeBite_36 : decode cX6_takeBite 36 = .ok (.getfield 145, 3) := by decide +kernel
theorem dX6_takeBite_39 : decode cX6_takeBite 39 = .ok (.aload_n 0, 1) := by decide +kernel
theorem dX6_takeBite_40 : decode cX6_takeBite 40 = .ok (.getfield 27, 3) := by decide +kernel
theorem dX6_takeBite_43 : decode cX6_takeBite 43 = .ok (.iload_n 2, 1) := by decide +kernel
theorem dX6_takeBite_44 : decode cX6_takeBite 44 = .ok (.invokevirtual 182, 3) := by decide +kernel
theorem dX6_takeBite_47 : decode cX6_takeBite 47 = .ok (.iaload, 1) := by decide +kernel
theorem dX6_takeBite_48 : decode cX6_takeBite 48 = .ok (.goto 4, 3) := by decide +kernel
theorem dX6_takeBite_51 : decode cX6_takeBite 51 = .ok (.iload_n 1, 1) := by decide +kernel
theorem dX6_takeBite_52 : decode cX6_takeBite 52 = .ok (.istore 4, 2) := by decide +kernel
theorem dX6_takeBite_54 : decode cX6_takeBite 54 = .ok (.aload_n 0, 1) := by decide +kernel
theorem dX6_takeBite_55 : decode cX6_takeBite 55 = .ok (.invokevirtual 185, 3) := by decide +kernel
theorem dX6_takeBite_58 : decode cX6_takeBite 58 = .ok (.istore 5, 2) := by decide +kernel
theorem dX6_takeBite_60 : decode cX6_takeBite 60 = .ok (.aload_n 3, 1) := by decide +kernel
theorem dX6_takeBite_61 : decode cX6_takeBite 61 = .ok (.getfield 188, 3) := by decide +kernel
theorem dX6_takeBite_64 : decode cX6_takeBite 64 = .ok (.aload_n 0, 1) := by decide +kernel
theorem dX6_takeBite_65 : decode cX6_takeBite 65 = .ok (.getfield 9, 3) := by decide +kernel
theorem dX6_takeBite_68 : decode cX6_takeBite 68 = .ok (.iload 5, 2) := by decide +kernel
theorem dX6_takeBite_70 : decode cX6_takeBite 70 = .ok (.iaload, 1) := by decide +kernel
theorem dX6_takeBite_71 : decode cX6_takeBite 71 = .ok (.invokestatic 191, 3) := by decide +kernel
theorem dX6_takeBite_74 : decode cX6_takeBite 74 = .ok (.istore 6, 2) := by decide +kernel
theorem dX6_takeBite_76 : decode cX6_takeBite 76 = .ok (.aload_n 0, 1) := by decide +kernel
theorem dX6_takeBite_77 : decode cX6_takeBite 77 = .ok (.iload 6, 2) := by decide +kernel
theorem dX6_takeBite_79 : decode cX6_takeBite 79 = .ok (.iload 5, 2) := by decide +kernel
theorem dX6_takeBite_81 : decode cX6_takeBite 81 = .ok (.iload 4, 2) := by decide +kernel
theorem dX6_takeBite_83 : decode cX6_takeBite 83 = .ok (.invokevirtual 194, 3) := by decide +kernel
theorem dX6_takeBite_86 : decode cX6_takeBite 86 = .ok (.istore 7, 2) := by decide +kernel
theorem dX6_takeBite_88 : decode cX6_takeBite 88 = .ok (.aload_n 0, 1) := by decide +kernel
theorem dX6_takeBite_89 : decode cX6_takeBite 89 = .ok (.getfield 9, 3) := by decide +kernel
theorem dX6_takeBite_92 : decode cX6_takeBite 92 = .ok (.iload 5, 2) := by decide +kernel
theorem dX6_takeBite_94 : decode cX6_takeBite 94 = .ok (.dup2, 1) := by decide +kernel
theorem dX6_takeBite_95 : decode cX6_takeBite 95 = .ok (.iaload, 1) := by decide +kernel
theorem dX6_takeBite_96 : decode cX6_takeBite 96 = .ok (.iload 6, 2) := by decide +kernel
theorem dX6_takeBite_98 : decode cX6_takeBite 98 = .ok (.isub, 1) := by decide +kernel
theorem dX6_takeBite_99 : decode cX6_takeBite 99 = .ok (.iastore, 1) := by decide +kernel
theorem dX6_takeBite_100 : decode cX6_takeBite 100 = .ok (.aload_n 0, 1) := by decide +kernel
theorem dX6_takeBite_101 : decode cX6_takeBite 101 = .ok (.dup, 1) := by decide +kernel
theorem dX6_takeBite_102 : decode cX6_takeBite 102 = .ok (.getfield 49, 3) := by decide +kernel
theorem dX6_takeBite_105 : decode cX6_takeBite 105 = .ok (.iload 6, 2) := by decide +kernel
theorem dX6_takeBite_107 : decode cX6_takeBite 107 = .ok (.isub, 1) := by decide +kernel
theorem dX6_takeBite_108 : decode cX6_takeBite 108 = .ok (.putfield 49, 3) := by decide +kernel
theorem dX6_takeBite_111 : decode cX6_takeBite 111 = .ok (.aload_n 0, 1) := by decide +kernel
theorem dX6_takeBite_112 : decode cX6_takeBite 112 = .ok (.getfield 15, 3) := by decide +kernel
theorem dX6_takeBite_115 : decode cX6_takeBite 115 = .ok (.iload 4, 2) := by decide +kernel
theorem dX6_takeBite_117 : decode cX6_takeBite 117 = .ok (.dup2, 1) := by decide +kernel
theorem dX6_takeBite_118 : decode cX6_takeBite 118 = .ok (.iaload, 1) := by decide +kernel
theorem dX6_takeBite_119 : decode cX6_takeBite 119 = .ok (.iload 7, 2) := by decide +kernel
theorem dX6_takeBite_121 : decode cX6_takeBite 121 = .ok (.iadd, 1) := by decide +kernel
theorem dX6_takeBite_122 : decode cX6_takeBite 122 = .ok (.iastore, 1) := by decide +kernel
theorem dX6_takeBite_123 : decode cX6_takeBite 123 = .ok (.aload_n 0, 1) := by decide +kernel
theorem dX6_takeBite_124 : decode cX6_takeBite 124 = .ok (.dup, 1) := by decide +kernel
theorem dX6_takeBite_125 : decode cX6_takeBite 125 = .ok (.getfield 61, 3) := by decide +kernel
theorem dX6_takeBite_128 : decode cX6_takeBite 128 = .ok (.iload 7, 2) := by decide +kernel
theorem dX6_takeBite_130 : decode cX6_takeBite 130 = .ok (.iadd, 1) := by decide +kernel
theorem dX6_takeBite_131 : decode cX6_takeBite 131 = .ok (.putfield 61, 3) := by decide +kernel
theorem dX6_takeBite_134 : decode cX6_takeBite 134 = .ok (.aload_n 0, 1) := by decide +kernel
theorem dX6_takeBite_135 : decode cX6_takeBite 135 = .ok (.getfield 58, 3) := by decide +kernel
theorem dX6_takeBite_138 : decode cX6_takeBite 138 = .ok (.aload_n 0, 1) := by decide +kernel
theorem dX6_takeBite_139 : decode cX6_takeBite 139 = .ok (.getfield 67, 3) := by decide +kernel
theorem dX6_takeBite_142 : decode cX6_takeBite 142 = .ok (.if_icmp .ne 16, 3) := by decide +kernel
theorem dX6_takeBite_145 : decode cX6_takeBite 145 = .ok (.aload_n 0, 1) := by decide +kernel
theorem dX6_takeBite_146 : decode cX6_takeBite 146 = .ok (.iload_n 1, 1) := by decide +kernel
theorem dX6_takeBite_147 : decode cX6_takeBite 147 = .ok (.iload 4, 2) := by decide +kernel
theorem dX6_takeBite_149 : decode cX6_takeBite 149 = .ok (.iload 5, 2) := by decide +kernel
theorem dX6_takeBite_151 : decode cX6_takeBite 151 = .ok (.iload 6, 2) := by decide +kernel
theorem dX6_takeBite_153 : decode cX6_takeBite 153 = .ok (.iload 7, 2) := by decide +kernel
theorem dX6_takeBite_155 : decode cX6_takeBite 155 = .ok (.invokevirtual 198, 3) := by decide +kernel
theorem dX6_takeBite_158 : decode cX6_takeBite 158 = .ok (.aload_n 0, 1) := by decide +kernel
theorem dX6_takeBite_159 : decode cX6_takeBite 159 = .ok (.dup, 1) := by decide +kernel
theorem dX6_takeBite_160 : decode cX6_takeBite 160 = .ok (.getfield 58, 3) := by decide +kernel
theorem dX6_takeBite_163 : decode cX6_takeBite 163 = .ok (.iconst 1, 1) := by decide +kernel
theorem dX6_takeBite_164 : decode cX6_takeBite 164 = .ok (.iadd, 1) := by decide +kernel
theorem dX6_takeBite_165 : decode cX6_takeBite 165 = .ok (.putfield 58, 3) := by decide +kernel
theorem dX6_takeBite_168 : decode cX6_takeBite 168 = .ok (.return_, 1) := by decide +kernel
theorem dX6_firstLayer_0 : decode cX6_firstLayer 0 = .ok (.iconst 0, 1) := by decide +kernel
theorem dX6_firstLayer_1 : decode cX6_firstLayer 1 = .ok (.istore_n 1, 1) := by decide +kernel
theorem dX6_firstLayer_2 : decode cX6_firstLayer 2 = .ok (.iload_n 1, 1) := by decide +kernel
theorem dX6_firstLayer_3 : decode cX6_firstLayer 3 = .ok (.iconst 4, 1) := by decide +kernel
theorem dX6_firstLayer_4 : decode cX6_firstLayer 4 = .ok (.if_icmp .ge 18, 3) := by decide +kernel
theorem dX6_firstLayer_7 : decode cX6_firstLayer 7 = .ok (.aload_n 0, 1) := by decide +kernel
theorem dX6_firstLayer_8 : decode cX6_firstLayer 8 = .ok (.getfield 9, 3) := by decide +kernel
theorem dX6_firstLayer_11 : decode cX6_firstLayer 11 = .ok (.iload_n 1, 1) := by decide +kernel
theorem dX6_firstLayer_12 : decode cX6_firstLayer 12 = .ok (.iaload, 1) := by decide +kernel
theorem dX6_firstLayer_13 : decode cX6_firstLayer 13 = .ok (.ifCond .ne 9, 3) := by decide +kernel
theorem dX6_firstLayer_16 : decode cX6_firstLayer 16 = .ok (.iinc 1 1, 3) := by decide +kernel
theorem dX6_firstLayer_19 : decode cX6_firstLayer 19 = .ok (.goto (-17), 3) := by decide +kernel
theorem dX6_firstLayer_22 : decode cX6_firstLayer 22 = .ok (.iload_n 1, 1) := by decide +kernel
theorem dX6_firstLayer_23 : decode cX6_firstLayer 23 = .ok (.ireturn, 1) := by decide +kernel
theorem dX6_worthOf_0 : decode cX6_worthOf 0 = .ok (.aload_n 0, 1) := by decide +kernel
theorem dX6_worthOf_1 : decode cX6_worthOf 1 = .ok (.getfield 27, 3) := by decide +kernel
theorem dX6_worthOf_4 : decode cX6_worthOf 4 = .ok (.getfield 202, 3) := by decide +kernel
theorem dX6_worthOf_7 : decode cX6_worthOf 7 = .ok (.ifCond .eq 30, 3) := by decide +kernel
theorem dX6_worthOf_10 : decode cX6_worthOf 10 = .ok (.iload_n 2, 1) := by decide +kernel
theorem dX6_worthOf_11 : decode cX6_worthOf 11 = .ok (.iconst 4, 1) := by decide +kernel
theorem dX6_worthOf_12 : decode cX6_worthOf 12 = .ok (.if_icmp .ne 25, 3) := by decide +kernel
theorem dX6_worthOf_15 : decode cX6_worthOf 15 = .ok (.aload_n 0, 1) := by decide +kernel
theorem dX6_worthOf_16 : decode cX6_worthOf 16 = .ok (.getfield 27, 3) := by decide +kernel
theorem dX6_worthOf_19 : decode cX6_worthOf 19 = .ok (.getfield 119, 3) := by decide +kernel
theorem dX6_worthOf_22 : decode cX6_worthOf 22 = .ok (.iload_n 3, 1) := by decide +kernel
theorem dX6_worthOf_23 : decode cX6_worthOf 23 = .ok (.invokevirtual 134, 3) := by decide +kernel
theorem dX6_worthOf_26 : decode cX6_worthOf 26 = .ok (.checkcast 104, 3) := by decide +kernel
theorem dX6_worthOf_29 : decode cX6_worthOf 29 = .ok (.getfield 205, 3) := by decide +kernel
theorem dX6_worthOf_32 : decode cX6_worthOf 32 = .ok (.ifCond .ne 5, 3) := by decide +kernel
theorem dX6_worthOf_35 : decode cX6_worthOf 35 = .ok (.iconst 0, 1) := by decide +kernel
theorem dX6_worthOf_36 : decode cX6_worthOf 36 = .ok (.ireturn, 1) := by decide +kernel
theorem dX6_worthOf_37 : decode cX6_worthOf 37 = .ok (.iload_n 1, 1) := by decide +kernel
theorem dX6_worthOf_38 : decode cX6_worthOf 38 = .ok (.iconst 1, 1) := by decide +kernel
theorem dX6_worthOf_39 : decode cX6_worthOf 39 = .ok (.iload_n 2, 1) := by decide +kernel
theorem dX6_worthOf_40 : decode cX6_worthOf 40 = .ok (.iadd, 1) := by decide +kernel
theorem dX6_worthOf_41 : decode cX6_worthOf 41 = .ok (.imul, 1) := by decide +kernel
theorem dX6_worthOf_42 : decode cX6_worthOf 42 = .ok (.istore 4, 2) := by decide +kernel
theorem dX6_worthOf_44 : decode cX6_worthOf 44 = .ok (.aload_n 0, 1) := by decide +kernel
theorem dX6_worthOf_45 : decode cX6_worthOf 45 = .ok (.getfield 44, 3) := by decide +kernel
theorem dX6_worthOf_48 : decode cX6_worthOf 48 = .ok (.bipush 20, 2) := by decide +kernel
theorem dX6_worthOf_50 : decode cX6_worthOf 50 = .ok (.if_icmp .ge 10, 3) := by decide +kernel
theorem dX6_worthOf_53 : decode cX6_worthOf 53 = .ok (.iload 4, 2) := by decide +kernel
theorem dX6_worthOf_55 : decode cX6_worthOf 55 = .ok (.iconst 2, 1) := by decide +kernel
theorem dX6_worthOf_56 : decode cX6_worthOf 56 = .ok (.idiv, 1) := by decide +kernel
theorem dX6_worthOf_57 : decode cX6_worthOf 57 = .ok (.goto 5, 3) := by decide +kernel
theorem dX6_worthOf_60 : decode cX6_worthOf 60 = .ok (.iload 4, 2) := by decide +kernel
theorem dX6_worthOf_62 : decode cX6_worthOf 62 = .ok (.ireturn, 1) := by decide +kernel
theorem dX6_look_0 : decode cX6_look 0 = .ok (.aload_n 0, 1) := by decide +kernel
theorem dX6_look_1 : decode cX6_look 1 = .ok (.getfield 24, 3) := by decide +kernel
theorem dX6_look_4 : decode cX6_look 4 = .ok (.iconst 0, 1) := by decide +kernel
theorem dX6_look_5 : decode cX6_look 5 = .ok (.iload_n 1, 1) := by decide +kernel
theorem dX6_look_6 : decode cX6_look 6 = .ok (.iastore, 1) := by decide +kernel
theorem dX6_look_7 : decode cX6_look 7 = .ok (.aload_n 0, 1) := by decide +kernel
theorem dX6_look_8 : decode cX6_look 8 = .ok (.getfield 24, 3) := by decide +kernel
theorem dX6_look_11 : decode cX6_look 11 = .ok (.iconst 1, 1) := by decide +kernel
theorem dX6_look_12 : decode cX6_look 12 = .ok (.iload_n 2, 1) := by decide +kernel
theorem dX6_look_13 : decode cX6_look 13 = .ok (.iastore, 1) := by decide +kernel
theorem dX6_look_14 : decode cX6_look 14 = .ok (.aload_n 0, 1) := by decide +kernel
theorem dX6_look_15 : decode cX6_look 15 = .ok (.getfield 24, 3) := by decide +kernel
theorem dX6_look_18 : decode cX6_look 18 = .ok (.iconst 2, 1) := by decide +kernel
theorem dX6_look_19 : decode cX6_look 19 = .ok (.iload_n 3, 1) := by decide +kernel
theorem dX6_look_20 : decode cX6_look 20 = .ok (.iastore, 1) := by decide +kernel
theorem dX6_look_21 : decode cX6_look 21 = .ok (.aload_n 0, 1) := by decide +kernel
theorem dX6_look_22 : decode cX6_look 22 = .ok (.getfield 24, 3) := by decide +kernel
theorem dX6_look_25 : decode cX6_look 25 = .ok (.iconst 3, 1) := by decide +kernel
theorem dX6_look_26 : decode cX6_look 26 = .ok (.iload 4, 2) := by decide +kernel
theorem dX6_look_28 : decode cX6_look 28 = .ok (.iastore, 1) := by decide +kernel
theorem dX6_look_29 : decode cX6_look 29 = .ok (.aload_n 0, 1) := by decide +kernel
theorem dX6_look_30 : decode cX6_look 30 = .ok (.getfield 24, 3) := by decide +kernel
theorem dX6_look_33 : decode cX6_look 33 = .ok (.iconst 4, 1) := by decide +kernel
theorem dX6_look_34 : decode cX6_look 34 = .ok (.iload 5, 2) := by decide +kernel
theorem dX6_look_36 : decode cX6_look 36 = .ok (.iastore, 1) := by decide +kernel
theorem dX6_look_37 : decode cX6_look 37 = .ok (.return_, 1) := by decide +kernel
theorem dX7_init_0 : decode cX7_init 0 = .ok (.aload_n 0, 1) := by decide +kernel
theorem dX7_init_1 : decode cX7_init 1 = .ok (.iload_n 1, 1) := by decide +kernel
theorem dX7_init_2 : decode cX7_init 2 = .ok (.iload_n 2, 1) := by decide +kernel
theorem dX7_init_3 : decode cX7_init 3 = .ok (.iload_n 3, 1) := by decide +kernel
theorem dX7_init_4 : decode cX7_init 4 = .ok (.iload 4, 2) := by decide +kernel
theorem dX7_init_6 : decode cX7_init 6 = .ok (.invokespecial 3, 3) := by decide +kernel
theorem dX7_init_9 : decode cX7_init 9 = .ok (.return_, 1) := by decide +kernel
theorem dX7_kindNumber_0 : decode cX7_kindNumber 0 = .ok (.iconst 1, 1) := by decide +kernel
theorem dX7_kindNumber_1 : decode cX7_kindNumber 1 = .ok (.ireturn, 1) := by decide +kernel
theorem dX7_beatsOfTurn_0 : decode cX7_beatsOfTurn 0 = .ok (.aload_n 0, 1) := by decide +kernel
theorem dX7_beatsOfTurn_1 : decode cX7_beatsOfTurn 1 = .ok (.getfield 9, 3) := by decide +kernel
theorem dX7_beatsOfTurn_4 : decode cX7_beatsOfTurn 4 = .ok (.ireturn, 1) := by decide +kernel
theorem dX8_init_0 : decode cX8_init 0 = .ok (.aload_n 0, 1) := by decide +kernel
theorem dX8_init_1 : decode cX8_init 1 = .ok (.invokespecial 3, 3) := by decide +kernel
theorem dX8_init_4 : decode cX8_init 4 = .ok (.aload_n 0, 1) := by decide +kernel
theorem dX8_init_5 : decode cX8_init 5 = .ok (.bipush 10, 2) := by decide +kernel
theorem dX8_init_7 : decode cX8_init 7 = .ok (.newarray .int, 2) := by decide +kernel
theorem dX8_init_9 : decode cX8_init 9 = .ok (.putfield 9, 3) := by decide +kernel
theorem dX8_init_12 : decode cX8_init 12 = .ok (.aload_n 0, 1) := by decide +kernel
theorem dX8_init_13 : decode cX8_init 13 = .ok (.bipush 10, 2) := by decide +kernel
theorem dX8_init_15 : decode cX8_init 15 = .ok (.newarray .int, 2) := by decide +kernel
theorem dX8_init_17 : decode cX8_init 17 = .ok (.putfield 15, 3) := by decide +kernel
theorem dX8_init_20 : decode cX8_init 20 = .ok (.aload_n 0, 1) := by decide +kernel
theorem dX8_init_21 : decode cX8_init 21 = .ok (.iconst 5, 1) := by decide +kernel
theorem dX8_init_22 : decode cX8_init 22 = .ok (.newarray .int, 2) := by decide +kernel
theorem dX8_init_24 : decode cX8_init 24 = .ok (.putfield 18, 3) := by decide +kernel
theorem dX8_init_27 : decode cX8_init 27 = .ok (.aload_n 0, 1) := by decide +kernel
theorem dX8_init_28 : decode cX8_init 28 = .ok (.bipush 100, 2) := by decide +kernel
theorem dX8_init_30 : decode cX8_init 30 = .ok (.putfield 21, 3) := by decide +kernel
theorem dX8_init_33 : decode cX8_init 33 = .ok (.aload_n 0, 1) := by decide +kernel
theorem dX8_init_34 : decode cX8_init 34 = .ok (.aload_n 1, 1) := by decide +kernel
theorem dX8_init_35 : decode cX8_init 35 = .ok (.putfield 25, 3) := by decide +kernel
theorem dX8_init_38 : decode cX8_init 38 = .ok (.iconst 0, 1) := by decide +kernel
theorem dX8_init_39 : decode cX8_init 39 = .ok (.istore_n 2, 1) := by decide +kernel
theorem dX8_init_40 : decode cX8_init 40 = .ok (.iload_n 2, 1) := by decide +kernel
theorem dX8_init_41 : decode cX8_init 41 = .ok (.bipush 10, 2) := by decide +kernel
theorem dX8_init_43 : decode cX8_init 43 = .ok (.if_icmp .ge 16, 3) := by decide +kernel
theorem dX8_init_46 : decode cX8_init 46 = .ok (.aload_n 0, 1) := by decide +kernel
theorem dX8_init_47 : decode cX8_init 47 = .ok (.getfield 15, 3) := by decide +kernel
theorem dX8_init_50 : decode cX8_init 50 = .ok (.iload_n 2, 1) := by decide +kernel
theorem dX8_init_51 : decode cX8_init 51 = .ok (.iload_n 2, 1) := by decide +kernel
theorem dX8_init_52 : decode cX8_init 52 = .ok (.iastore, 1) := by decide +kernel
theorem dX8_init_53 : decode cX8_init 53 = .ok (.iinc 2 1, 3) := by decide +kernel
theorem dX8_init_56 : decode cX8_init 56 = .ok (.goto (-16), 3) := by decide +kernel
theorem dX8_init_59 : decode cX8_init 59 = .ok (.return_, 1) := by decide +kernel
theorem dX8_becomeLike_0 : decode cX8_becomeLike 0 = .ok (.iconst 0, 1) := by decide +kernel
theorem dX8_becomeLike_1 : decode cX8_becomeLike 1 = .ok (.istore_n 3, 1) := by decide +kernel
theorem dX8_becomeLike_2 : decode cX8_becomeLike 2 = .ok (.iload_n 3, 1) := by decide +kernel
theorem dX8_becomeLike_3 : decode cX8_becomeLike 3 = .ok (.bipush 10, 2) := by decide +kernel
theorem dX8_becomeLike_5 : decode cX8_becomeLike 5 = .ok (.if_icmp .ge 56, 3) := by decide +kernel
theorem dX8_becomeLike_8 : decode cX8_becomeLike 8 = .ok (.aload_n 0, 1) := by decide +kernel
theorem dX8_becomeLike_9 : decode cX8_becomeLike 9 = .ok (.getfield 9, 3) := by decide +kernel
theorem dX8_becomeLike_12 : decode cX8_becomeLike 12 = .ok (.iload_n 3, 1) := by decide +kernel
theorem dX8_becomeLike_13 : decode cX8_becomeLike 13 = .ok (.iload_n 3, 1) := by decide +kernel
theorem dX8_becomeLike_14 : decode cX8_becomeLike 14 = .ok (.iload_n 2, 1) := by decide +kernel
theorem dX8_becomeLike_15 : decode cX8_becomeLike 15 = .ok (.if_icmp .ge 12, 3) := by decide +kernel
theorem dX8_becomeLike_18 : decode cX8_becomeLike 18 = .ok (.aload_n 1, 1) := by decide +kernel
theorem dX8_becomeLike_19 : decode cX8_becomeLike 19 = .ok (.getfield 9, 3) := by decide +kernel
theorem dX8_becomeLike_22 : decode cX8_becomeLike 22 = .ok (.iload_n 3, 1) := by decide +kernel
theorem dX8_becomeLike_23 : decode cX8_becomeLike 23 = .ok (.iaload, 1) := by decide +kernel
theorem dX8_becomeLike_24 : decode cX8_becomeLike 24 = .ok (.goto 9, 3) := by decide +kernel
theorem dX8_becomeLike_27 : decode cX8_becomeLike 27 = .ok (.aload_n 0, 1) := by decide +kernel
theorem dX8_becomeLike_28 : decode cX8_becomeLike 28 = .ok (.getfield 9, 3) := by decide +kernel
theorem dX8_becomeLike_31 : decode cX8_becomeLike 31 = .ok (.iload_n 3, 1) := by decide +kernel
theorem dX8_becomeLike_32 : decode cX8_becomeLike 32 = .ok (.iaload, 1) := by decide +kernel
theorem dX8_becomeLike_33 : decode cX8_becomeLike 33 = .ok (.iastore, 1) := by decide +kernel
theorem dX8_becomeLike_34 : decode cX8_becomeLike 34 = .ok (.aload_n 0, 1) := by decide +kernel
theorem dX8_becomeLike_35 : decode cX8_becomeLike 35 = .ok (.getfield 15, 3) := by decide +kernel
theorem dX8_becomeLike_38 : decode cX8_becomeLike 38 = .ok (.iload_n 3, 1) := by decide +kernel
theorem dX8_becomeLike_39 : decode cX8_becomeLike 39 = .ok (.iload_n 3, 1) := by decide +kernel
theorem dX8_becomeLike_40 : decode cX8_becomeLike 40 = .ok (.iload_n 2, 1) := by decide +kernel
theorem dX8_becomeLike_41 : decode cX8_becomeLike 41 = .ok (.if_icmp .ge 12, 3) := by decide +kernel
theorem dX8_becomeLike_44 : decode cX8_becomeLike 44 = .ok (.aload_n 1, 1) := by decide +kernel
theorem dX8_becomeLike_45 : decode cX8_becomeLike 45 = .ok (.getfield 15, 3) := by decide +kernel
theorem dX8_becomeLike_48 : decode cX8_becomeLike 48 = .ok (.iload_n 3, 1) := by decide +kernel
theorem dX8_becomeLike_49 : decode cX8_becomeLike 49 = .ok (.iaload, 1) := by decide +kernel
theorem dX8_becomeLike_50 : decode cX8_becomeLike 50 = .ok (.goto 4, 3) := by decide +kernel
theorem dX8_becomeLike_53 : decode cX8_becomeLike 53 = .ok (.iload_n 3, 1) := by decide +kernel
theorem dX8_becomeLike_54 : decode cX8_becomeLike 54 = .ok (.iastore, 1) := by decide +kernel
theorem dX8_becomeLike_55 : decode cX8_becomeLike 55 = .ok (.iinc 3 1, 3) := by decide +kernel
theorem dX8_becomeLike_58 : decode cX8_becomeLike 58 = .ok (.goto (-56), 3) := by decide +kernel
theorem dX8_becomeLike_61 : decode cX8_becomeLike 61 = .ok (.aload_n 1, 1) := by decide +kernel
theorem dX8_becomeLike_62 : decode cX8_becomeLike 62 = .ok (.getfield 18, 3) := by decide +kernel
theorem dX8_becomeLike_65 : decode cX8_becomeLike 65 = .ok (.iconst 0, 1) := by decide +kernel
theorem dX8_becomeLike_66 : decode cX8_becomeLike 66 = .ok (.aload_n 0, 1) := by decide +kernel
theorem dX8_becomeLike_67 : decode cX8_becomeLike 67 = .ok (.getfield 18, 3) := by decide +kernel
theorem dX8_becomeLike_70 : decode cX8_becomeLike 70 = .ok (.iconst 0, 1) := by decide +kernel
theorem dX8_becomeLike_71 : decode cX8_becomeLike 71 = .ok (.iconst 5, 1) := by decide +kernel
theorem dX8_becomeLike_72 : decode cX8_becomeLike 72 = .ok (.invokestatic 29, 3) := by decide +kernel
theorem dX8_becomeLike_75 : decode cX8_becomeLike 75 = .ok (.aload_n 0, 1) := by decide +kernel
theorem dX8_becomeLike_76 : decode cX8_becomeLike 76 = .ok (.aload_n 1, 1) := by decide +kernel
theorem dX8_becomeLike_77 : decode cX8_becomeLike 77 = .ok (.getfield 21, 3) := by decide +kernel
theorem dX8_becomeLike_80 : decode cX8_becomeLike 80 = .ok (.putfield 21, 3) := by decide +kernel
theorem dX8_becomeLike_83 : decode cX8_becomeLike 83 = .ok (.aload_n 0, 1) := by decide +kernel
theorem dX8_becomeLike_84 : decode cX8_becomeLike 84 = .ok (.aload_n 1, 1) := by decide +kernel
theorem dX8_becomeLike_85 : decode cX8_becomeLike 85 = .ok (.getfield 35, 3) := by decide +kernel
theorem dX8_becomeLike_88 : decode cX8_becomeLike 88 = .ok (.putfield 35, 3) := by decide +kernel
theorem dX8_becomeLike_91 : decode cX8_becomeLike 91 = .ok (.return_, 1) := by decide +kernel
theorem dX8_exchange_0 : decode cX8_exchange 0 = .ok (.aload_n 0, 1) := by decide +kernel
theorem dX8_exchange_1 : decode cX8_exchange 1 = .ok (.getfield 15, 3) := by decide +kernel
theorem dX8_exchange_4 : decode cX8_exchange 4 = .ok (.iload_n 1, 1) := by decide +kernel
theorem dX8_exchange_5 : decode cX8_exchange 5 = .ok (.iaload, 1) := by decide +kernel
theorem dX8_exchange_6 : decode cX8_exchange 6 = .ok (.istore_n 3, 1) := by decide +kernel
theorem dX8_exchange_7 : decode cX8_exchange 7 = .ok (.aload_n 0, 1) := by decide +kernel
theorem dX8_exchange_8 : decode cX8_exchange 8 = .ok (.getfield 15, 3) := by decide +kernel
theorem dX8_exchange_11 : decode cX8_exchange 11 = .ok (.iload_n 1, 1) := by decide +kernel
theorem dX8_exchange_12 : decode cX8_exchange 12 = .ok (.aload_n 0, 1) := by decide +kernel
theorem dX8_exchange_13 : decode cX8_exchange 13 = .ok (.getfield 15, 3) := by decide +kernel
theorem dX8_exchange_16 : decode cX8_exchange 16 = .ok (.iload_n 2, 1) := by decide +kernel
theorem dX8_exchange_17 : decode cX8_exchange 17 = .ok (.iaload, 1) := by decide +kernel
theorem dX8_exchange_18 : decode cX8_exchange 18 = .ok (.iastore, 1) := by decide +kernel
theorem dX8_exchange_19 : decode cX8_exchange 19 = .ok (.aload_n 0, 1) := by decide +kernel
theorem dX8_exchange_20 : decode cX8_exchange 20 = .ok (.getfield 15, 3) := by decide +kernel
theorem dX8_exchange_23 : decode cX8_exchange 23 = .ok (.iload_n 2, 1) := by decide +kernel
theorem dX8_exchange_24 : decode cX8_exchange 24 = .ok (.iload_n 3, 1) := by decide +kernel
theorem dX8_exchange_25 : decode cX8_exchange 25 = .ok (.iastore, 1) := by decide +kernel
theorem dX8_exchange_26 : decode cX8_exchange 26 = .ok (.return_, 1) := by decide +kernel
theorem dX8_seatOf_0 : decode cX8_seatOf 0 = .ok (.iconst 0, 1) := by decide +kernel
theorem dX8_seatOf_1 : decode cX8_seatOf 1 = .ok (.istore_n 2, 1) := by decide +kernel
theorem dX8_seatOf_2 : decode cX8_seatOf 2 = .ok (.iload_n 2, 1) := by decide +kernel
theorem dX8_seatOf_3 : decode cX8_seatOf 3 = .ok (.bipush 10, 2) := by decide +kernel
theorem dX8_seatOf_5 : decode cX8_seatOf 5 = .ok (.if_icmp .ge 21, 3) := by decide +kernel
theorem dX8_seatOf_8 : decode cX8_seatOf 8 = .ok (.aload_n 0, 1) := by decide +kernel
theorem dX8_seatOf_9 : decode cX8_seatOf 9 = .ok (.getfield 15, 3) := by decide +kernel
theorem dX8_seatOf_12 : decode cX8_seatOf 12 = .ok (.iload_n 2, 1) := by decide +kernel
theorem dX8_seatOf_13 : decode cX8_seatOf 13 = .ok (.iaload, 1) := by decide +kernel
theorem dX8_seatOf_14 : decode cX8_seatOf 14 = .ok (.iload_n 1, 1) := by decide +kernel
theorem dX8_seatOf_15 : decode cX8_seatOf 15 = .ok (.if_icmp .ne 5, 3) := by decide +kernel
theorem dX8_seatOf_18 : decode cX8_seatOf 18 = .ok (.iload_n 2, 1) := by decide +kernel
theorem dX8_seatOf_19 : decode cX8_seatOf 19 = .ok (.ireturn, 1) := by decide +kernel
theorem dX8_seatOf_20 : decode cX8_seatOf 20 = .ok (.iinc 2 1, 3) := by decide +kernel
theorem dX8_seatOf_23 : decode cX8_seatOf 23 = .ok (.goto (-21), 3) := by decide +kernel
theorem dX8_seatOf_26 : decode cX8_seatOf 26 = .ok (.iconst (-1), 1) := by decide +kernel
theorem dX8_seatOf_27 : decode cX8_seatOf 27 = .ok (.ireturn, 1) := by decide +kernel
theorem dX8_hermitIn_0 : decode cX8_hermitIn 0 = .ok (.aload_n 0, 1) := by decide +kernel
theorem dX8_hermitIn_1 : decode cX8_hermitIn 1 = .ok (.getfield 25, 3) := by decide +kernel
theorem dX8_hermitIn_4 : decode cX8_hermitIn 4 = .ok (.aload_n 0, 1) := by decide +kernel
theorem dX8_hermitIn_5 : decode cX8_hermitIn 5 = .ok (.getfield 15, 3) := by decide +kernel
theorem dX8_hermitIn_8 : decode cX8_hermitIn 8 = .ok (.iload_n 1, 1) := by decide +kernel
theorem dX8_hermitIn_9 : decode cX8_hermitIn 9 = .ok (.iaload, 1) := by decide +kernel
theorem dX8_hermitIn_10 : decode cX8_hermitIn 10 = .ok (.invokevirtual 39, 3) := by decide +kernel
theorem dX8_hermitIn_13 : decode cX8_hermitIn 13 = .ok (.checkcast 45, 3) := by decide +kernel
theorem dX8_hermitIn_16 : decode cX8_hermitIn 16 = .ok (.areturn, 1) := by decide +kernel
theorem dX8_seatNext_0 : decode cX8_seatNext 0 = .ok (.iload_n 1, 1) := by decide +kernel
theorem dX8_seatNext_1 : decode cX8_seatNext 1 = .ok (.iconst 1, 1) := by decide +kernel
theorem dX8_seatNext_2 : decode cX8_seatNext 2 = .ok (.iadd, 1) := by decide +kernel
theorem dX8_seatNext_3 : decode cX8_seatNext 3 = .ok (.aload_n 0, 1) := by decide +kernel
theorem dX8_seatNext_4 : decode cX8_seatNext 4 = .ok (.getfield 25, 3) := by decide +kernel
theorem dX8_seatNext_7 : decode cX8_seatNext 7 = .ok (.invokevirtual 47, 3) := by decide +kernel
theorem dX8_seatNext_10 : decode cX8_seatNext 10 = .ok (.if_icmp .ge 9, 3) := by decide +kernel
theorem dX8_seatNext_13 : decode cX8_seatNext 13 = .ok (.iload_n 1, 1) := by decide +kernel
theorem dX8_seatNext_14 : decode cX8_seatNext 14 = .ok (.iconst 1, 1) := by decide +kernel
theorem dX8_seatNext_15 : decode cX8_seatNext 15 = .ok (.iadd, 1) := by decide +kernel
theorem dX8_seatNext_16 : decode cX8_seatNext 16 = .ok (.goto 4, 3) := by decide +kernel
theorem dX8_seatNext_19 : decode cX8_seatNext 19 = .ok (.iconst 0, 1) := by decide +kernel
theorem dX8_seatNext_20 : decode cX8_seatNext 20 = .ok (.ireturn, 1) := by decide +kernel
theorem dX8_seatBeside_0 : decode cX8_seatBeside 0 = .ok (.iload_n 2, 1) := by decide +kernel
theorem dX8_seatBeside_1 : decode cX8_seatBeside 1 = .ok (.ifCond .eq 9, 3) := by decide +kernel
theorem dX8_seatBeside_4 : decode cX8_seatBeside 4 = .ok (.aload_n 0, 1) := by decide +kernel
theorem dX8_seatBeside_5 : decode cX8_seatBeside 5 = .ok (.iload_n 1, 1) := by decide +kernel
theorem dX8_seatBeside_6 : decode cX8_seatBeside 6 = .ok (.invokevirtual 51, 3) := by decide +kernel
theorem dX8_seatBeside_9 : decode cX8_seatBeside 9 = .ok (.ireturn, 1) := by decide +kernel
theorem dX8_seatBeside_10 : decode cX8_seatBeside 10 = .ok (.iload_n 1, 1) := by decide +kernel
theorem dX8_seatBeside_11 : decode cX8_seatBeside 11 = .ok (.ifCond .le 9, 3) := by decide +kernel
theorem dX8_seatBeside_14 : decode cX8_seatBeside 14 = .ok (.iload_n 1, 1) := by decide +kernel
theorem dX8_seatBeside_15 : decode cX8_seatBeside 15 = .ok (.iconst 1, 1) := by decide +kernel
theorem dX8_seatBeside_16 : decode cX8_seatBeside 16 = .ok (.isub, 1) := by decide +kernel
theorem dX8_seatBeside_17 : decode cX8_seatBeside 17 = .ok (.goto 12, 3) := by decide +kernel
theorem dX8_seatBeside_20 : decode cX8_seatBeside 20 = .ok (.aload_n 0, 1) := by decide +kernel
theorem dX8_seatBeside_21 : decode cX8_seatBeside 21 = .ok (.getfield 25, 3) := by decide +kernel
theorem dX8_seatBeside_24 : decode cX8_seatBeside 24 = .ok (.invokevirtual 47, 3) := by decide +kernel
theorem dX8_seatBeside_27 : decode cX8_seatBeside 27 = .ok (.iconst 1, 1) := by decide +kernel
theorem dX8_seatBeside_28 : decode cX8_seatBeside 28 = .ok (.isub, 1) := by decide +kernel
theorem dX8_seatBeside_29 : decode cX8_seatBeside 29 = .ok (.ireturn, 1) := by decide +kernel
theorem dX8_isStarved_0 : decode cX8_isStarved 0 = .ok (.aload_n 0, 1) := by decide +kernel
theorem dX8_isStarved_1 : decode cX8_isStarved 1 = .ok (.getfield 9, 3) := by decide +kernel
theorem dX8_isStarved_4 : decode cX8_isStarved 4 = .ok (.iload_n 1, 1) := by decide +kernel
theorem dX8_isStarved_5 : decode cX8_isStarved 5 = .ok (.iaload, 1) := by decide +kernel
theorem dX8_isStarved_6 : decode cX8_isStarved 6 = .ok (.iconst (-1), 1) := by decide +kernel
theorem dX8_isStarved_7 : decode cX8_isStarved 7 = .ok (.if_icmp .ne 7, 3) := by decide +kernel
theorem dX8_isStarved_10 : decode cX8_isStarved 10 = .ok (.iconst 1, 1) := by decide +kernel
theorem dX8_isStarved_11 : decode cX8_isStarved 11 = .ok (.goto 4, 3) := by decide +kernel
theorem dX8_isStarved_14 : decode cX8_isStarved 14 = .ok (.iconst 0, 1) := by decide +kernel
theorem dX8_isStarved_15 : decode cX8_isStarved 15 = .ok (.ireturn, 1) := by decide +kernel
theorem dX8_soupInAll_0 : decode cX8_soupInAll 0 = .ok (.iconst 0, 1) := by decide +kernel
theorem dX8_soupInAll_1 : decode cX8_soupInAll 1 = .ok (.istore_n 1, 1) := by decide +kernel
theorem dX8_soupInAll_2 : decode cX8_soupInAll 2 = .ok (.iconst 0, 1) := by decide +kernel
theorem dX8_soupInAll_3 : decode cX8_soupInAll 3 = .ok (.istore_n 2, 1) := by decide +kernel
theorem dX8_soupInAll_4 : decode cX8_soupInAll 4 = .ok (.iload_n 2, 1) := by decide +kernel
theorem dX8_soupInAll_5 : decode cX8_soupInAll 5 = .ok (.iconst 5, 1) := by decide +kernel
theorem dX8_soupInAll_6 : decode cX8_soupInAll 6 = .ok (.if_icmp .ge 18, 3) := by decide +kernel
theorem dX8_soupInAll_9 : decode cX8_soupInAll 9 = .ok (.iload_n 1, 1) := by decide +kernel
theorem dX8_soupInAll_10 : decode cX8_soupInAll 10 = .ok (.aload_n 0, 1) := by decide +kernel
theorem dX8_soupInAll_11 : decode cX8_soupInAll 11 = .ok (.getfield 18, 3) := by decide +kernel
theorem dX8_soupInAll_14 : decode cX8_soupInAll 14 = .ok (.iload_n 2, 1) := by decide +kernel
theorem dX8_soupInAll_15 : decode cX8_soupInAll 15 = .ok (.iaload, 1) := by decide +kernel
theorem dX8_soupInAll_16 : decode cX8_soupInAll 16 = .ok (.iadd, 1) := by decide +kernel
theorem dX8_soupInAll_17 : decode cX8_soupInAll 17 = .ok (.istore_n 1, 1) := by decide +kernel
theorem dX8_soupInAll_18 : decode cX8_soupInAll 18 = .ok (.iinc 2 1, 3) := by decide +kernel
theorem dX8_soupInAll_21 : decode cX8_soupInAll 21 = .ok (.goto (-17), 3) := by decide +kernel
theorem dX8_soupInAll_24 : decode cX8_soupInAll 24 = .ok (.iload_n 1, 1) := by decide +kernel
theorem dX8_soupInAll_25 : decode cX8_soupInAll 25 = .ok (.ireturn, 1) := by decide +kernel
theorem dX8_starvedInAll_0 : decode cX8_starvedInAll 0 = .ok (.iconst 0, 1) := by decide +kernel
theorem dX8_starvedInAll_1 : decode cX8_starvedInAll 1 = .ok (.istore_n 1, 1) := by decide +kernel
theorem dX8_starvedInAll_2 : decode cX8_starvedInAll 2 = .ok (.iconst 0, 1) := by decide +kernel
theorem dX8_starvedInAll_3 : decode cX8_starvedInAll 3 = .ok (.istore_n 2, 1) := by decide +kernel
theorem dX8_starvedInAll_4 : decode cX8_starvedInAll 4 = .ok (.iload_n 2, 1) := by decide +kernel
theorem dX8_starvedInAll_5 : decode cX8_starvedInAll 5 = .ok (.aload_n 0, 1) := by decide +kernel
theorem dX8_starvedInAll_6 : decode cX8_starvedInAll 6 = .ok (.getfield 25, 3) := by decide +kernel
theorem dX8_starvedInAll_9 : decode cX8_starvedInAll 9 = .ok (.invokevirtual 47, 3) := by decide +kernel
theorem dX8_starvedInAll_12 : decode cX8_starvedInAll 12 = .ok (.if_icmp .ge 20, 3) := by decide +kernel
theorem dX8_starvedInAll_15 : decode cX8_starvedInAll 15 = .ok (.iload_n 1, 1) := by decide +kernel
theorem dX8_starvedInAll_16 : decode cX8_starvedInAll 16 = .ok (.aload_n 0, 1) := by decide +kernel
theorem dX8_starvedInAll_17 : decode cX8_starvedInAll 17 = .ok (.iload_n 2, 1) := by decide +kernel
theorem dX8_starvedInAll_18 : decode cX8_starvedInAll 18 = .ok (.invokevirtual 55, 3) := by decide +kernel
theorem dX8_starvedInAll_21 : decode cX8_starvedInAll 21 = .ok (.invokestatic 59, 3) := by decide +kernel
theorem dX8_starvedInAll_24 : decode cX8_starvedInAll 24 = .ok (.iadd, 1) := by decide +kernel
theorem dX8_starvedInAll_25 : decode cX8_starvedInAll 25 = .ok (.istore_n 1, 1) := by decide +kernel
theorem dX8_starvedInAll_26 : decode cX8_starvedInAll 26 = .ok (.iinc 2 1, 3) := by decide +kernel
theorem dX8_starvedInAll_29 : decode cX8_starvedInAll 29 = .ok (.goto (-25), 3) := by decide +kernel
theorem dX8_starvedInAll_32 : decode cX8_starvedInAll 32 = .ok (.iload_n 1, 1) := by decide +kernel
theorem dX8_starvedInAll_33 : decode cX8_starvedInAll 33 = .ok (.ireturn, 1) := by decide +kernel
theorem dX8_endDay_0 : decode cX8_endDay 0 = .ok (.iconst 0, 1) := by decide +kernel
theorem dX8_endDay_1 : decode cX8_endDay 1 = .ok (.istore_n 2, 1) := by decide +kernel
theorem dX8_endDay_2 : decode cX8_endDay 2 = .ok (.iconst 0, 1) := by decide +kernel
theorem dX8_endDay_3 : decode cX8_endDay 3 = .ok (.istore_n 3, 1) := by decide +kernel
theorem dX8_endDay_4 : decode cX8_endDay 4 = .ok (.iload_n 3, 1) := by decide +kernel
theorem dX8_endDay_5 : decode cX8_endDay 5 = .ok (.aload_n 0, 1) := by decide +kernel
theorem dX8_endDay_6 : decode cX8_endDay 6 = .ok (.getfield 25, 3) := by decide +kernel
theorem dX8_endDay_9 : decode cX8_endDay 9 = .ok (.invokevirtual 47, 3) := by decide +kernel
theorem dX8_endDay_12 : decode cX8_endDay 12 = .ok (.if_icmp .ge 80, 3) := by decide +kernel
theorem dX8_endDay_15 : decode cX8_endDay 15 = .ok (.aload_n 0, 1) := by decide +kernel
theorem dX8_endDay_16 : decode cX8_endDay 16 = .ok (.iload_n 3, 1) := by decide +kernel
theorem dX8_endDay_17 : decode cX8_endDay 17 = .ok (.invokevirtual 55, 3) := by decide +kernel
theorem dX8_endDay_20 : decode cX8_endDay 20 = .ok (.ifCond .eq 6, 3) := by decide +kernel
theorem dX8_endDay_23 : decode cX8_endDay 23 = .ok (.goto 63, 3) := by decide +kernel
theorem dX8_endDay_26 : decode cX8_endDay 26 = .ok (.aload_n 0, 1) := by decide +kernel
theorem dX8_endDay_27 : decode cX8_endDay 27 = .ok (.getfield 9, 3) := by decide +kernel
theorem dX8_endDay_30 : decode cX8_endDay 30 = .ok (.iload_n 3, 1) := by decide +kernel
theorem dX8_endDay_31 : decode cX8_endDay 31 = .ok (.iaload, 1) := by decide +kernel
theorem dX8_endDay_32 : decode cX8_endDay 32 = .ok (.aload_n 1, 1) := by decide +kernel
theorem dX8_endDay_33 : decode cX8_endDay 33 = .ok (.iload_n 3, 1) := by decide +kernel
theorem dX8_endDay_34 : decode cX8_endDay 34 = .ok (.iaload, 1) := by decide +kernel
theorem dX8_endDay_35 : decode cX8_endDay 35 = .ok (.iadd, 1) := by decide +kernel
theorem dX8_endDay_36 : decode cX8_endDay 36 = .ok (.bipush 99, 2) := by decide +kernel
theorem dX8_endDay_38 : decode cX8_endDay 38 = .ok (.invokestatic 63, 3) := by decide +kernel
theorem dX8_endDay_41 : decode cX8_endDay 41 = .ok (.aload_n 0, 1) := by decide +kernel
theorem dX8_endDay_42 : decode cX8_endDay 42 = .ok (.getfield 25, 3) := by decide +kernel
theorem dX8_endDay_45 : decode cX8_endDay 45 = .ok (.iload_n 3, 1) := by decide +kernel
theorem dX8_endDay_46 : decode cX8_endDay 46 = .ok (.invokevirtual 39, 3) := by decide +kernel
theorem dX8_endDay_49 : decode cX8_endDay 49 = .ok (.checkcast 45, 3) := by decide +kernel
theorem dX8_endDay_52 : decode cX8_endDay 52 = .ok (.getfield 69, 3) := by decide +kernel
theorem dX8_endDay_55 : decode cX8_endDay 55 = .ok (.isub, 1) := by decide +kernel
theorem dX8_endDay_56 : decode cX8_endDay 56 = .ok (.istore 4, 2) := by decide +kernel
theorem dX8_endDay_58 : decode cX8_endDay 58 = .ok (.iload 4, 2) := by decide +kernel
theorem dX8_endDay_60 : decode cX8_endDay 60 = .ok (.ifCond .ge 9, 3) := by decide +kernel
theorem dX8_endDay_63 : decode cX8_endDay 63 = .ok (.iload_n 2, 1) := by decide +kernel
theorem dX8_endDay_64 : decode cX8_endDay 64 = .ok (.iconst 1, 1) := by decide +kernel
theorem dX8_endDay_65 : decode cX8_endDay 65 = .ok (.iload_n 3, 1) := by decide +kernel
theorem dX8_endDay_66 : decode cX8_endDay 66 = .ok (.ishl, 1) := by decide +kernel
theorem dX8_endDay_67 : decode cX8_endDay 67 = .ok (.ior, 1) := by decide +kernel
theorem dX8_endDay_68 : decode cX8_endDay 68 = .ok (.istore_n 2, 1) := by decide +kernel
theorem dX8_endDay_69 : decode cX8_endDay 69 = .ok (.aload_n 0, 1) := by decide +kernel
theorem dX8_endDay_70 : decode cX8_endDay 70 = .ok (.getfield 9, 3) := by decide +kernel
theorem dX8_endDay_73 : decode cX8_endDay 73 = .ok (.iload_n 3, 1) := by decide +kernel
theorem dX8_endDay_74 : decode cX8_endDay 74 = .ok (.iload 4, 2) := by decide +kernel
theorem dX8_endDay_76 : decode cX8_endDay 76 = .ok (.ifCond .ge 7, 3) := by decide +kernel
theorem dX8_endDay_79 : decode cX8_endDay 79 = .ok (.iconst (-1), 1) := by decide +kernel
theorem dX8_endDay_80 : decode cX8_endDay 80 = .ok (.goto 5, 3) := by decide +kernel
theorem dX8_endDay_83 : decode cX8_endDay 83 = .ok (.iload 4, 2) := by decide +kernel
theorem dX8_endDay_85 : decode cX8_endDay 85 = .ok (.iastore, 1) := by decide +kernel
theorem dX8_endDay_86 : decode cX8_endDay 86 = .ok (.iinc 3 1, 3) := by decide +kernel
theorem dX8_endDay_89 : decode cX8_endDay 89 = .ok (.goto (-85), 3) := by decide +kernel
theorem dX8_endDay_92 : decode cX8_endDay 92 = .ok (.iload_n 2, 1) := by decide +kernel
theorem dX8_endDay_93 : decode cX8_endDay 93 = .ok (.ireturn, 1) := by decide +kernel
theorem dX9_init_0 : decode cX9_init 0 = .ok (.aload_n 0, 1) := by decide +kernel
theorem dX9_init_1 : decode cX9_init 1 = .ok (.invokespecial 1, 3) := by decide +kernel
theorem dX9_init_4 : decode cX9_init 4 = .ok (.aload_n 0, 1) := by decide +kernel
theorem dX9_init_5 : decode cX9_init 5 = .ok (.aload_n 1, 1) := by decide +kernel
theorem dX9_init_6 : decode cX9_init 6 = .ok (.getfield 7, 3) := by decide +kernel
theorem dX9_init_9 : decode cX9_init 9 = .ok (.putfield 13, 3) := by decide +kernel
theorem dX9_init_12 : decode cX9_init 12 = .ok (.aload_n 0, 1) := by decide +kernel
theorem dX9_init_13 : decode cX9_init 13 = .ok (.aload_n 1, 1) := by decide +kernel
theorem dX9_init_14 : decode cX9_init 14 = .ok (.getfield 16, 3) := by decide +kernel
theorem dX9_init_17 : decode cX9_init 17 = .ok (.putfield 20, 3) := by decide +kernel
theorem dX9_init_20 : decode cX9_init 20 = .ok (.aload_n 0, 1) := by decide +kernel
theorem dX9_init_21 : decode cX9_init 21 = .ok (.aload_n 1, 1) := by decide +kernel
theorem dX9_init_22 : decode cX9_init 22 = .ok (.getfield 21, 3) := by decide +kernel
theorem dX9_init_25 : decode cX9_init 25 = .ok (.putfield 24, 3) := by decide +kernel
theorem dX9_init_28 : decode cX9_init 28 = .ok (.aload_n 0, 1) := by decide +kernel
theorem dX9_init_29 : decode cX9_init 29 = .ok (.aload_n 1, 1) := by decide +kernel
theorem dX9_init_30 : decode cX9_init 30 = .ok (.getfield 25, 3) := by decide +kernel
theorem dX9_init_33 : decode cX9_init 33 = .ok (.putfield 28, 3) := by decide +kernel
theorem dX9_init_36 : decode cX9_init 36 = .ok (.return_, 1) := by decide +kernel
theorem dX9_told_0 : decode cX9_told 0 = .ok (.iload_n 1, 1) := by decide +kernel
theorem dX9_told_1 : decode cX9_told 1 = .ok (.tableswitch 54 0 2 #[27, 37, 44], 27) := by decide +kernel
theorem dX9_told_28 : decode cX9_told 28 = .ok (.aload_n 0, 1) := by decide +kernel
theorem dX9_told_29 : decode cX9_told 29 = .ok (.getfield 13, 3) := by decide +kernel
theorem dX9_told_32 : decode cX9_told 32 = .ok (.invokestatic 29, 3) := by decide +kernel
theorem dX9_told_35 : decode cX9_told 35 = .ok (.goto 24, 3) := by decide +kernel
theorem dX9_told_38 : decode cX9_told 38 = .ok (.aload_n 0, 1) := by decide +kernel
theorem dX9_told_39 : decode cX9_told 39 = .ok (.getfield 20, 3) := by decide +kernel
theorem dX9_told_42 : decode cX9_told 42 = .ok (.goto 17, 3) := by decide +kernel
theorem dX9_told_45 : decode cX9_told 45 = .ok (.aload_n 0, 1) := by decide +kernel
theorem dX9_told_46 : decode cX9_told 46 = .ok (.getfield 24, 3) := by decide +kernel
theorem dX9_told_49 : decode cX9_told 49 = .ok (.invokestatic 29, 3) := by decide +kernel
theorem dX9_told_52 : decode cX9_told 52 = .ok (.goto 7, 3) := by decide +kernel
theorem dX9_told_55 : decode cX9_told 55 = .ok (.aload_n 0, 1) := by decide +kernel
theorem dX9_told_56 : decode cX9_told 56 = .ok (.getfield 28, 3) := by decide +kernel
theorem dX9_told_59 : decode cX9_told 59 = .ok (.ireturn, 1) := by decide +kernel
theorem dX10_init_0 : decode cX10_init 0 = .ok (.aload_n 0, 1) := by decide +kernel
theorem dX10_init_1 : decode cX10_init 1 = .ok (.invokespecial 3, 3) := by decide +kernel
theorem dX10_init_4 : decode cX10_init 4 = .ok (.aload_n 0, 1) := by decide +kernel
theorem dX10_init_5 : decode cX10_init 5 = .ok (.new 9, 3) := by decide +kernel
theorem dX10_init_8 : decode cX10_init 8 = .ok (.dup, 1) := by decide +kernel
theorem dX10_init_9 : decode cX10_init 9 = .ok (.invokespecial 11, 3) := by decide +kernel
theorem dX10_init_12 : decode cX10_init 12 = .ok (.putfield 12, 3) := by decide +kernel
theorem dX10_init_15 : decode cX10_init 15 = .ok (.aload_n 0, 1) := by decide +kernel
theorem dX10_init_16 : decode cX10_init 16 = .ok (.new 9, 3) := by decide +kernel
theorem dX10_init_19 : decode cX10_init 19 = .ok (.dup, 1) := by decide +kernel
theorem dX10_init_20 : decode cX10_init 20 = .ok (.invokespecial 11, 3) := by decide +kernel
theorem dX10_init_23 : decode cX10_init 23 = .ok (.putfield 16, 3) := by decide +kernel
theorem dX10_init_26 : decode cX10_init 26 = .ok (.aload_n 0, 1) := by decide +kernel
theorem dX10_init_27 : decode cX10_init 27 = .ok (.new 19, 3) := by decide +kernel
theorem dX10_init_30 : decode cX10_init 30 = .ok (.dup, 1) := by decide +kernel
theorem dX10_init_31 : decode cX10_init 31 = .ok (.invokespecial 21, 3) := by decide +kernel
theorem dX10_init_34 : decode cX10_init 34 = .ok (.putfield 22, 3) := by decide +kernel
theorem dX10_init_37 : decode cX10_init 37 = .ok (.aload_n 0, 1) := by decide +kernel
theorem dX10_init_38 : decode cX10_init 38 = .ok (.new 26, 3) := by decide +kernel
theorem dX10_init_41 : decode cX10_init 41 = .ok (.dup, 1) := by decide +kernel
theorem dX10_init_42 : decode cX10_init 42 = .ok (.aload_n 0, 1) := by decide +kernel
theorem dX10_init_43 : decode cX10_init 43 = .ok (.getfield 12, 3) := by decide +kernel
theorem dX10_init_46 : decode cX10_init 46 = .ok (.invokespecial 28, 3) := by decide +kernel
theorem dX10_init_49 : decode cX10_init 49 = .ok (.putfield 31, 3) := by decide +kernel
theorem dX10_init_52 : decode cX10_init 52 = .ok (.aload_n 0, 1) := by decide +kernel
theorem dX10_init_53 : decode cX10_init 53 = .ok (.new 26, 3) := by decide +kernel
theorem dX10_init_56 : decode cX10_init 56 = .ok (.dup, 1) := by decide +kernel
theorem dX10_init_57 : decode cX10_init 57 = .ok (.aload_n 0, 1) := by decide +kernel
theorem dX10_init_58 : decode cX10_init 58 = .ok (.getfield 12, 3) := by decide +kernel
theorem dX10_init_61 : decode cX10_init 61 = .ok (.invokespecial 28, 3) := by decide +kernel
theorem dX10_init_64 : decode cX10_init 64 = .ok (.putfield 35, 3) := by decide +kernel
theorem dX10_init_67 : decode cX10_init 67 = .ok (.aload_n 0, 1) := by decide +kernel
theorem dX10_init_68 : decode cX10_init 68 = .ok (.iconst (-1), 1) := by decide +kernel
theorem dX10_init_69 : decode cX10_init 69 = .ok (.putfield 38, 3) := by decide +kernel
theorem dX10_init_72 : decode cX10_init 72 = .ok (.aload_n 0, 1) := by decide +kernel
theorem dX10_init_73 : decode cX10_init 73 = .ok (.new 42, 3) := by decide +kernel
theorem dX10_init_76 : decode cX10_init 76 = .ok (.dup, 1) := by decide +kernel
theorem dX10_init_77 : decode cX10_init 77 = .ok (.aload_n 0, 1) := by decide +kernel
theorem dX10_init_78 : decode cX10_init 78 = .ok (.getfield 31, 3) := by decide +kernel
theorem dX10_init_81 : decode cX10_init 81 = .ok (.invokespecial 44, 3) := by decide +kernel
theorem dX10_init_84 : decode cX10_init 84 = .ok (.putfield 47, 3) := by decide +kernel
theorem dX10_init_87 : decode cX10_init 87 = .ok (.aload_n 0, 1) := by decide +kernel
theorem dX10_init_88 : decode cX10_init 88 = .ok (.new 51, 3) := by decide +kernel
theorem dX10_init_91 : decode cX10_init 91 = .ok (.dup, 1) := by decide +kernel
theorem dX10_init_92 : decode cX10_init 92 = .ok (.aload_n 0, 1) := by decide +kernel
theorem dX10_init_93 : decode cX10_init 93 = .ok (.getfield 47, 3) := by decide +kernel
theorem dX10_init_96 : decode cX10_init 96 = .ok (.new 26, 3) := by decide +kernel
theorem dX10_init_99 : decode cX10_init 99 = .ok (.dup, 1) := by decide +kernel
theorem dX10_init_100 : decode cX10_init 100 = .ok (.aload_n 0, 1) := by decide +kernel
theorem dX10_init_101 : decode cX10_init 101 = .ok (.getfield 12, 3) := by decide +kernel
theorem dX10_init_104 : decode cX10_init 104 = .ok (.invokespecial 28, 3) := by decide +kernel
theorem dX10_init_107 : decode cX10_init 107 = .ok (.invokespecial 53, 3) := by decide +kernel
theorem dX10_init_110 : decode cX10_init 110 = .ok (.putfield 56, 3) := by decide +kernel
theorem dX10_init_113 : decode cX10_init 113 = .ok (.return_, 1) := by decide +kernel
theorem dX10_letters_0 : decode cX10_letters 0 = .ok (.lload_n 1, 1) := by decide +kernel
theorem dX10_letters_1 : decode cX10_letters 1 = .ok (.invokestatic 60, 3) := by decide +kernel
theorem dX10_letters_4 : decode cX10_letters 4 = .ok (.istore_n 3, 1) := by decide +kernel
theorem dX10_letters_5 : decode cX10_letters 5 = .ok (.iload_n 3, 1) := by decide +kernel
theorem dX10_letters_6 : decode cX10_letters 6 = .ok (.ifCond .ge 6, 3) := by decide +kernel
theorem dX10_letters_9 : decode cX10_letters 9 = .ok (.bipush (-102), 2) := by decide +kernel
theorem dX10_letters_11 : decode cX10_letters 11 = .ok (.ireturn, 1) := by decide +kernel
theorem dX10_letters_12 : decode cX10_letters 12 = .ok (.aload_n 0, 1) := by decide +kernel
theorem dX10_letters_13 : decode cX10_letters 13 = .ok (.getfield 22, 3) := by decide +kernel
theorem dX10_letters_16 : decode cX10_letters 16 = .ok (.getfield 64, 3) := by decide +kernel
theorem dX10_letters_19 : decode cX10_letters 19 = .ok (.iload_n 3, 1) := by decide +kernel
theorem dX10_letters_20 : decode cX10_letters 20 = .ok (.iadd, 1) := by decide +kernel
theorem dX10_letters_21 : decode cX10_letters 21 = .ok (.bipush 16, 2) := by decide +kernel
theorem dX10_letters_23 : decode cX10_letters 23 = .ok (.if_icmp .le 6, 3) := by decide +kernel
theorem dX10_letters_26 : decode cX10_letters 26 = .ok (.bipush (-104), 2) := by decide +kernel
theorem dX10_letters_28 : decode cX10_letters 28 = .ok (.ireturn, 1) := by decide +kernel
theorem dX10_letters_29 : decode cX10_letters 29 = .ok (.aload_n 0, 1) := by decide +kernel
theorem dX10_letters_30 : decode cX10_letters 30 = .ok (.getfield 22, 3) := by decide +kernel
theorem dX10_letters_33 : decode cX10_letters 33 = .ok (.lload_n 1, 1) := by decide +kernel
theorem dX10_letters_34 : decode cX10_letters 34 = .ok (.iload_n 3, 1) := by decide +kernel
theorem dX10_letters_35 : decode cX10_letters 35 = .ok (.invokevirtual 67, 3) := by decide +kernel
theorem dX10_letters_38 : decode cX10_letters 38 = .ok (.aload_n 0, 1) := by decide +kernel
theorem dX10_letters_39 : decode cX10_letters 39 = .ok (.getfield 22, 3) := by decide +kernel
theorem dX10_letters_42 : decode cX10_letters 42 = .ok (.getfield 64, 3) := by decide +kernel
theorem dX10_letters_45 : decode cX10_letters 45 = .ok (.ireturn, 1) := by decide +kernel
theorem dX10_blank_0 : decode cX10_blank 0 = .ok (.aload_n 0, 1) := by decide +kernel
theorem dX10_blank_1 : decode cX10_blank 1 = .ok (.getfield 22, 3) := by decide +kernel
theorem dX10_blank_4 : decode cX10_blank 4 = .ok (.getfield 64, 3) := by decide +kernel
theorem dX10_blank_7 : decode cX10_blank 7 = .ok (.istore_n 1, 1) := by decide +kernel
theorem dX10_blank_8 : decode cX10_blank 8 = .ok (.aload_n 0, 1) := by decide +kernel
theorem dX10_blank_9 : decode cX10_blank 9 = .ok (.getfield 22, 3) := by decide +kernel
theorem dX10_blank_12 : decode cX10_blank 12 = .ok (.iconst 0, 1) := by decide +kernel
theorem dX10_blank_13 : decode cX10_blank 13 = .ok (.putfield 64, 3) := by decide +kernel
theorem dX10_blank_16 : decode cX10_blank 16 = .ok (.iload_n 1, 1) := by decide +kernel
theorem dX10_blank_17 : decode cX10_blank 17 = .ok (.ireturn, 1) := by decide +kernel
theorem dX10_fault_0 : decode cX10_fault 0 = .ok (.aload_n 0, 1) := by decide +kernel
theorem dX10_fault_1 : decode cX10_fault 1 = .ok (.getfield 22, 3) := by decide +kernel
theorem dX10_fault_4 : decode cX10_fault 4 = .ok (.invokevirtual 71, 3) := by decide +kernel
theorem dX10_fault_7 : decode cX10_fault 7 = .ok (.aload_n 0, 1) := by decide +kernel
theorem dX10_fault_8 : decode cX10_fault 8 = .ok (.getfield 22, 3) := by decide +kernel
theorem dX10_fault_11 : decode cX10_fault 11 = .ok (.getfield 74, 3) := by decide +kernel
theorem dX10_fault_14 : decode cX10_fault 14 = .ok (.ireturn, 1) := by decide +kernel
theorem dX10_vow_0 : decode cX10_vow 0 = .ok (.aload_n 0, 1) := by decide +kernel
theorem dX10_vow_1 : decode cX10_vow 1 = .ok (.getfield 22, 3) := by decide +kernel
theorem dX10_vow_4 : decode cX10_vow 4 = .ok (.invokevirtual 71, 3) := by decide +kernel
theorem dX10_vow_7 : decode cX10_vow 7 = .ok (.aload_n 0, 1) := by decide +kernel
theorem dX10_vow_8 : decode cX10_vow 8 = .ok (.getfield 22, 3) := by decide +kernel
theorem dX10_vow_11 : decode cX10_vow 11 = .ok (.getfield 77, 3) := by decide +kernel
theorem dX10_vow_14 : decode cX10_vow 14 = .ok (.ifCond .ne 6, 3) := by decide +kernel
theorem dX10_vow_17 : decode cX10_vow 17 = .ok (.bipush (-103), 2) := by decide +kernel
theorem dX10_vow_19 : decode cX10_vow 19 = .ok (.ireturn, 1) := by decide +kernel
theorem dX10_vow_20 : decode cX10_vow 20 = .ok (.aload_n 0, 1) := by decide +kernel
theorem dX10_vow_21 : decode cX10_vow 21 = .ok (.getfield 16, 3) := by decide +kernel
theorem dX10_vow_24 : decode cX10_vow 24 = .ok (.invokevirtual 81, 3) := by decide +kernel
theorem dX10_vow_27 : decode cX10_vow 27 = .ok (.bipush 6, 2) := by decide +kernel
theorem dX10_vow_29 : decode cX10_vow 29 = .ok (.if_icmp .lt 6, 3) := by decide +kernel
theorem dX10_vow_32 : decode cX10_vow 32 = .ok (.bipush (-104), 2) := by decide +kernel
theorem dX10_vow_34 : decode cX10_vow 34 = .ok (.ireturn, 1) := by decide +kernel
theorem dX10_vow_35 : decode cX10_vow 35 = .ok (.aload_n 0, 1) := by decide +kernel
theorem dX10_vow_36 : decode cX10_vow 36 = .ok (.getfield 16, 3) := by decide +kernel
theorem dX10_vow_39 : decode cX10_vow 39 = .ok (.new 85, 3) := by decide +kernel
theorem dX10_vow_42 : decode cX10_vow 42 = .ok (.dup, 1) := by decide +kernel
theorem dX10_vow_43 : decode cX10_vow 43 = .ok (.aload_n 0, 1) := by decide +kernel
theorem dX10_vow_44 : decode cX10_vow 44 = .ok (.getfield 22, 3) := by decide +kernel
theorem dX10_vow_47 : decode cX10_vow 47 = .ok (.invokespecial 87, 3) := by decide +kernel
theorem dX10_vow_50 : decode cX10_vow 50 = .ok (.invokevirtual 90, 3) := by decide +kernel
theorem dX10_vow_53 : decode cX10_vow 53 = .ok (.pop, 1) := by decide +kernel
theorem dX10_vow_54 : decode cX10_vow 54 = .ok (.aload_n 0, 1) := by decide +kernel
theorem dX10_vow_55 : decode cX10_vow 55 = .ok (.getfield 22, 3) := by decide +kernel
theorem dX10_vow_58 : decode cX10_vow 58 = .ok (.iconst 0, 1) := by decide +kernel
theorem dX10_vow_59 : decode cX10_vow 59 = .ok (.putfield 64, 3) := by decide +kernel
theorem dX10_vow_62 : decode cX10_vow 62 = .ok (.aload_n 0, 1) := by decide +kernel
theorem dX10_vow_63 : decode cX10_vow 63 = .ok (.getfield 16, 3) := by decide +kernel
theorem dX10_vow_66 : decode cX10_vow 66 = .ok (.invokevirtual 81, 3) := by decide +kernel
theorem dX10_vow_69 : decode cX10_vow 69 = .ok (.iconst 1, 1) := by decide +kernel
theorem dX10_vow_70 : decode cX10_vow 70 = .ok (.isub, 1) := by decide +kernel
theorem dX10_vow_71 : decode cX10_vow 71 = .ok (.ireturn, 1) := by decide +kernel
theorem dX10_vowTold_0 : decode cX10_vowTold 0 = .ok (.aload_n 0, 1) := by decide +kernel
theorem dX10_vowTold_1 : decode cX10_vowTold 1 = .ok (.iload_n 1, 1) := by decide +kernel
theorem dX10_vowTold_2 : decode cX10_vowTold 2 = .ok (.invokevirtual 94, 3) := by decide +kernel
theorem dX10_vowTold_5 : decode cX10_vowTold 5 = .ok (.astore_n 3, 1) := by decide +kernel
theorem dX10_vowTold_6 : decode cX10_vowTold 6 = .ok (.aload_n 3, 1) := by decide +kernel
theorem dX10_vowTold_7 : decode cX10_vowTold 7 = .ok (.ifnonnull 6, 3) := by decide +kernel
theorem dX10_vowTold_10 : decode cX10_vowTold 10 = .ok (.bipush (-101), 2) := by decide +kernel
theorem dX10_vowTold_12 : decode cX10_vowTold 12 = .ok (.ireturn, 1) := by decide +kernel
theorem dX10_vowTold_13 : decode cX10_vowTold 13 = .ok (.iload_n 2, 1) := by decide +kernel
theorem dX10_vowTold_14 : decode cX10_vowTold 14 = .ok (.ifCond .lt 8, 3) := by decide +kernel
theorem dX10_vowTold_17 : decode cX10_vowTold 17 = .ok (.iload_n 2, 1) := by decide +kernel
theorem dX10_vowTold_18 : decode cX10_vowTold 18 = .ok (.iconst 3, 1) := by decide +kernel
theorem dX10_vowTold_19 : decode cX10_vowTold 19 = .ok (.if_icmp .le 8, 3) := by decide +kernel
theorem dX10_vowTold_22 : decode cX10_vowTold 22 = .ok (.bipush (-102), 2) := by decide +kernel
theorem dX10_vowTold_24 : decode cX10_vowTold 24 = .ok (.goto 8, 3) := by decide +kernel
theorem dX10_vowTold_27 : decode cX10_vowTold 27 = .ok (.aload_n 3, 1) := by decide +kernel
theorem dX10_vowTold_28 : decode cX10_vowTold 28 = .ok (.iload_n 2, 1) := by decide +kernel
theorem dX10_vowTold_29 : decode cX10_vowTold 29 = .ok (.invokevirtual 98, 3) := by decide +kernel
theorem dX10_vowTold_32 : decode cX10_vowTold 32 = .ok (.ireturn, 1) := by decide +kernel
theorem dX10_hermit_0 : decode cX10_hermit 0 = .ok (.iload_n 1, 1) := by decide +kernel
theorem dX10_hermit_1 : decode cX10_hermit 1 = .ok (.iconst 0, 1) := by decide +kernel
theorem dX10_hermit_2 : decode cX10_hermit 2 = .ok (.iconst 4, 1) := by decide +kernel
theorem dX10_hermit_3 : decode cX10_hermit 3 = .ok (.invokestatic 102, 3) := by decide +kernel
theorem dX10_hermit_6 : decode cX10_hermit 6 = .ok (.ifCond .eq 60, 3) := by decide +kernel
theorem dX10_hermit_9 : decode cX10_hermit 9 = .ok (.iload_n 2, 1) := by decide +kernel
theorem dX10_hermit_10 : decode cX10_hermit 10 = .ok (.iload_n 1, 1) := by decide +kernel
theorem dX10_hermit_11 : decode cX10_hermit 11 = .ok (.invokestatic 106, 3) := by decide +kernel
theorem dX10_hermit_14 : decode cX10_hermit 14 = .ok (.iload_n 1, 1) := by decide +kernel
theorem dX10_hermit_15 : decode cX10_hermit 15 = .ok (.invokestatic 109, 3) := by decide +kernel
theorem dX10_hermit_18 : decode cX10_hermit 18 = .ok (.invokestatic 102, 3) := by decide +kernel
theorem dX10_hermit_21 : decode cX10_hermit 21 = .ok (.ifCond .eq 45, 3) := by decide +kernel
theorem dX10_hermit_24 : decode cX10_hermit 24 = .ok (.iload_n 3, 1) := by decide +kernel
theorem dX10_hermit_25 : decode cX10_hermit 25 = .ok (.iconst 1, 1) := by decide +kernel
theorem dX10_hermit_26 : decode cX10_hermit 26 = .ok (.bipush 99, 2) := by decide +kernel
theorem dX10_hermit_28 : decode cX10_hermit 28 = .ok (.invokestatic 102, 3) := by decide +kernel
theorem dX10_hermit_31 : decode cX10_hermit 31 = .ok (.ifCond .eq 35, 3) := by decide +kernel
theorem dX10_hermit_34 : decode cX10_hermit 34 = .ok (.iload 4, 2) := by decide +kernel
theorem dX10_hermit_36 : decode cX10_hermit 36 = .ok (.iconst 0, 1) := by decide +kernel
theorem dX10_hermit_37 : decode cX10_hermit 37 = .ok (.iconst 3, 1) := by decide +kernel
theorem dX10_hermit_38 : decode cX10_hermit 38 = .ok (.invokestatic 102, 3) := by decide +kernel
theorem dX10_hermit_41 : decode cX10_hermit 41 = .ok (.ifCond .eq 25, 3) := by decide +kernel
theorem dX10_hermit_44 : decode cX10_hermit 44 = .ok (.iload 5, 2) := by decide +kernel
theorem dX10_hermit_46 : decode cX10_hermit 46 = .ok (.iconst 1, 1) := by decide +kernel
theorem dX10_hermit_47 : decode cX10_hermit 47 = .ok (.bipush 9, 2) := by decide +kernel
theorem dX10_hermit_49 : decode cX10_hermit 49 = .ok (.invokestatic 102, 3) := by decide +kernel
theorem dX10_hermit_52 : decode cX10_hermit 52 = .ok (.ifCond .eq 14, 3) := by decide +kernel
theorem dX10_hermit_55 : decode cX10_hermit 55 = .ok (.iload 6, 2) := by decide +kernel
theorem dX10_hermit_57 : decode cX10_hermit 57 = .ok (.iconst 0, 1) := by decide +kernel
theorem dX10_hermit_58 : decode cX10_hermit 58 = .ok (.bipush 99, 2) := by decide +kernel
theorem dX10_hermit_60 : decode cX10_hermit 60 = .ok (.invokestatic 102, 3) := by decide +kernel
theorem dX10_hermit_63 : decode cX10_hermit 63 = .ok (.ifCond .ne 6, 3) := by decide +kernel
theorem dX10_hermit_66 : decode cX10_hermit 66 = .ok (.bipush (-102), 2) := by decide +kernel
theorem dX10_hermit_68 : decode cX10_hermit 68 = .ok (.ireturn, 1) := by decide +kernel
theorem dX10_hermit_69 : decode cX10_hermit 69 = .ok (.aload_n 0, 1) := by decide +kernel
theorem dX10_hermit_70 : decode cX10_hermit 70 = .ok (.getfield 12, 3) := by decide +kernel
theorem dX10_hermit_73 : decode cX10_hermit 73 = .ok (.invokevirtual 81, 3) := by decide +kernel
theorem dX10_hermit_76 : decode cX10_hermit 76 = .ok (.istore 7, 2) := by decide +kernel
theorem dX10_hermit_78 : decode cX10_hermit 78 = .ok (.iload 7, 2) := by decide +kernel
theorem dX10_hermit_80 : decode cX10_hermit 80 = .ok (.bipush 10, 2) := by decide +kernel
theorem dX10_hermit_82 : decode cX10_hermit 82 = .ok (.if_icmp .lt 6, 3) := by decide +kernel
theorem dX10_hermit_85 : decode cX10_hermit 85 = .ok (.bipush (-104), 2) := by decide +kernel
theorem dX10_hermit_87 : decode cX10_hermit 87 = .ok (.ireturn, 1) := by decide +kernel
theorem dX10_hermit_88 : decode cX10_hermit 88 = .ok (.aload_n 0, 1) := by decide +kernel
theorem dX10_hermit_89 : decode cX10_hermit 89 = .ok (.getfield 12, 3) := by decide +kernel
theorem dX10_hermit_92 : decode cX10_hermit 92 = .ok (.iload_n 1, 1) := by decide +kernel
theorem dX10_hermit_93 : decode cX10_hermit 93 = .ok (.iload_n 2, 1) := by decide +kernel
theorem dX10_hermit_94 : decode cX10_hermit 94 = .ok (.iload_n 3, 1) := by decide +kernel
theorem dX10_hermit_95 : decode cX10_hermit 95 = .ok (.iload 4, 2) := by decide +kernel
theorem dX10_hermit_97 : decode cX10_hermit 97 = .ok (.iload 5, 2) := by decide +kernel
theorem dX10_hermit_99 : decode cX10_hermit 99 = .ok (.invokestatic 112, 3) := by decide +kernel
theorem dX10_hermit_102 : decode cX10_hermit 102 = .ok (.invokevirtual 90, 3) := by decide +kernel
theorem dX10_hermit_105 : decode cX10_hermit 105 = .ok (.pop, 1) := by decide +kernel
theorem dX10_hermit_106 : decode cX10_hermit 106 = .ok (.aload_n 0, 1) := by decide +kernel
theorem dX10_hermit_107 : decode cX10_hermit 107 = .ok (.getfield 31, 3) := by decide +kernel
theorem dX10_hermit_110 : decode cX10_hermit 110 = .ok (.getfield 116, 3) := by decide +kernel
theorem dX10_hermit_113 : decode cX10_hermit 113 = .ok (.iload 7, 2) := by decide +kernel
theorem dX10_hermit_115 : decode cX10_hermit 115 = .ok (.iload 6, 2) := by decide +kernel
theorem dX10_hermit_117 : decode cX10_hermit 117 = .ok (.iastore, 1) := by decide +kernel
theorem dX10_hermit_118 : decode cX10_hermit 118 = .ok (.iload 7, 2) := by decide +kernel
theorem dX10_hermit_120 : decode cX10_hermit 120 = .ok (.ireturn, 1) := by decide +kernel
theorem dX10_as_0 : decode cX10_as 0 = .ok (.aload_n 0, 1) := by decide +kernel
theorem dX10_as_1 : decode cX10_as 1 = .ok (.iload_n 1, 1) := by decide +kernel
theorem dX10_as_2 : decode cX10_as 2 = .ok (.invokevirtual 120, 3) := by decide +kernel
theorem dX10_as_5 : decode cX10_as 5 = .ok (.ifCond .ne 6, 3) := by decide +kernel
theorem dX10_as_8 : decode cX10_as 8 = .ok (.bipush (-101), 2) := by decide +kernel
theorem dX10_as_10 : decode cX10_as 10 = .ok (.ireturn, 1) := by decide +kernel
theorem dX10_as_11 : decode cX10_as 11 = .ok (.iload_n 2, 1) := by decide +kernel
theorem dX10_as_12 : decode cX10_as 12 = .ok (.iconst 0, 1) := by decide +kernel
theorem dX10_as_13 : decode cX10_as 13 = .ok (.iconst 4, 1) := by decide +kernel
theorem dX10_as_14 : decode cX10_as 14 = .ok (.invokestatic 102, 3) := by decide +kernel
theorem dX10_as_17 : decode cX10_as 17 = .ok (.ifCond .ne 6, 3) := by decide +kernel
theorem dX10_as_20 : decode cX10_as 20 = .ok (.bipush (-102), 2) := by decide +kernel
theorem dX10_as_22 : decode cX10_as 22 = .ok (.ireturn, 1) := by decide +kernel
theorem dX10_as_23 : decode cX10_as 23 = .ok (.aload_n 0, 1) := by decide +kernel
theorem dX10_as_24 : decode cX10_as 24 = .ok (.getfield 12, 3) := by decide +kernel
theorem dX10_as_27 : decode cX10_as 27 = .ok (.iload_n 1, 1) := by decide +kernel
theorem dX10_as_28 : decode cX10_as 28 = .ok (.invokevirtual 124, 3) := by decide +kernel
theorem dX10_as_31 : decode cX10_as 31 = .ok (.checkcast 128, 3) := by decide +kernel
theorem dX10_as_34 : decode cX10_as 34 = .ok (.iload_n 2, 1) := by decide +kernel
theorem dX10_as_35 : decode cX10_as 35 = .ok (.invokevirtual 130, 3) := by decide +kernel
theorem dX10_as_38 : decode cX10_as 38 = .ok (.ifCond .eq 7, 3) := by decide +kernel
theorem dX10_as_41 : decode cX10_as 41 = .ok (.iload_n 1, 1) := by decide +kernel
theorem dX10_as_42 : decode cX10_as 42 = .ok (.goto 4, 3) := by decide +kernel
theorem dX10_as_45 : decode cX10_as 45 = .ok (.iconst (-1), 1) := by decide +kernel
theorem dX10_as_46 : decode cX10_as 46 = .ok (.ireturn, 1) := by decide +kernel
theorem dX10_about_0 : decode cX10_about 0 = .ok (.aload_n 0, 1) := by decide +kernel
theorem dX10_about_1 : decode cX10_about 1 = .ok (.iload_n 1, 1) := by decide +kernel
theorem dX10_about_2 : decode cX10_about 2 = .ok (.invokevirtual 120, 3) := by decide +kernel
theorem dX10_about_5 : decode cX10_about 5 = .ok (.ifCond .ne 7, 3) := by decide +kernel
theorem dX10_about_8 : decode cX10_about 8 = .ok (.sipush (-1001), 3) := by decide +kernel
theorem dX10_about_11 : decode cX10_about 11 = .ok (.ireturn, 1) := by decide +kernel
theorem dX10_about_12 : decode cX10_about 12 = .ok (.iload_n 2, 1) := by decide +kernel
theorem dX10_about_13 : decode cX10_about 13 = .ok (.iconst 0, 1) := by decide +kernel
theorem dX10_about_14 : decode cX10_about 14 = .ok (.bipush 6, 2) := by decide +kernel
theorem dX10_about_16 : decode cX10_about 16 = .ok (.invokestatic 102, 3) := by decide +kernel
theorem dX10_about_19 : decode cX10_about 19 = .ok (.ifCond .eq 12, 3) := by decide +kernel
theorem dX10_about_22 : decode cX10_about 22 = .ok (.aload_n 0, 1) := by decide +kernel
theorem dX10_about_23 : decode cX10_about 23 = .ok (.iload_n 1, 1) := by decide +kernel
theorem dX10_about_24 : decode cX10_about 24 = .ok (.iload_n 2, 1) := by decide +kernel
theorem dX10_about_25 : decode cX10_about 25 = .ok (.invokevirtual 133, 3) := by decide +kernel
theorem dX10_about_28 : decode cX10_about 28 = .ok (.goto 6, 3) := by decide +kernel
theorem dX10_about_31 : decode cX10_about 31 = .ok (.sipush (-1002), 3) := by decide +kernel
theorem dX10_about_34 : decode cX10_about 34 = .ok (.ireturn, 1) := by decide +kernel
theorem dX10_store_0 : decode cX10_store 0 = .ok (.aload_n 0, 1) := by decide +kernel
theorem dX10_store_1 : decode cX10_store 1 = .ok (.iload_n 1, 1) := by decide +kernel
theorem dX10_store_2 : decode cX10_store 2 = .ok (.invokevirtual 120, 3) := by decide +kernel
theorem dX10_store_5 : decode cX10_store 5 = .ok (.ifCond .ne 7, 3) := by decide +kernel
theorem dX10_store_8 : decode cX10_store 8 = .ok (.sipush (-1001), 3) := by decide +kernel
theorem dX10_store_11 : decode cX10_store 11 = .ok (.ireturn, 1) := by decide +kernel
theorem dX10_store_12 : decode cX10_store 12 = .ok (.iload_n 2, 1) := by decide +kernel
theorem dX10_store_13 : decode cX10_store 13 = .ok (.iconst 0, 1) := by decide +kernel
theorem dX10_store_14 : decode cX10_store 14 = .ok (.bipush 99, 2) := by decide +kernel
theorem dX10_store_16 : decode cX10_store 16 = .ok (.invokestatic 102, 3) := by decide +kernel
theorem dX10_store_19 : decode cX10_store 19 = .ok (.ifCond .ne 7, 3) := by decide +kernel
theorem dX10_store_22 : decode cX10_store 22 = .ok (.sipush (-1002), 3) := by decide +kernel
theorem dX10_store_25 : decode cX10_store 25 = .ok (.ireturn, 1) := by decide +kernel
theorem dX10_store_26 : decode cX10_store 26 = .ok (.aload_n 0, 1) := by decide +kernel
theorem dX10_store_27 : decode cX10_store 27 = .ok (.getfield 31, 3) := by decide +kernel
theorem dX10_store_30 : decode cX10_store 30 = .ok (.getfield 116, 3) := by decide +kernel
theorem dX10_store_33 : decode cX10_store 33 = .ok (.iload_n 1, 1) := by decide +kernel
theorem dX10_store_34 : decode cX10_store 34 = .ok (.iaload, 1) := by decide +kernel
theorem dX10_store_35 : decode cX10_store 35 = .ok (.istore_n 3, 1) := by decide +kernel
theorem dX10_store_36 : decode cX10_store 36 = .ok (.aload_n 0, 1) := by decide +kernel
theorem dX10_store_37 : decode cX10_store 37 = .ok (.getfield 31, 3) := by decide +kernel
theorem dX10_store_40 : decode cX10_store 40 = .ok (.getfield 116, 3) := by decide +kernel
theorem dX10_store_43 : decode cX10_store 43 = .ok (.iload_n 1, 1) := by decide +kernel
theorem dX10_store_44 : decode cX10_store 44 = .ok (.iload_n 2, 1) := by decide +kernel
theorem dX10_store_45 : decode cX10_store 45 = .ok (.iastore, 1) := by decide +kernel
theorem dX10_store_46 : decode cX10_store 46 = .ok (.iload_n 3, 1) := by decide +kernel
theorem dX10_store_47 : decode cX10_store 47 = .ok (.ireturn, 1) := by decide +kernel
theorem dX10_change_0 : decode cX10_change 0 = .ok (.aload_n 0, 1) := by decide +kernel
theorem dX10_change_1 : decode cX10_change 1 = .ok (.iload_n 1, 1) := by decide +kernel
theorem dX10_change_2 : decode cX10_change 2 = .ok (.invokevirtual 137, 3) := by decide +kernel
theorem dX10_change_5 : decode cX10_change 5 = .ok (.ifCond .eq 16, 3) := by decide +kernel
theorem dX10_change_8 : decode cX10_change 8 = .ok (.aload_n 0, 1) := by decide +kernel
theorem dX10_change_9 : decode cX10_change 9 = .ok (.iload_n 2, 1) := by decide +kernel
theorem dX10_change_10 : decode cX10_change 10 = .ok (.invokevirtual 137, 3) := by decide +kernel
theorem dX10_change_13 : decode cX10_change 13 = .ok (.ifCond .eq 8, 3) := by decide +kernel
theorem dX10_change_16 : decode cX10_change 16 = .ok (.iload_n 1, 1) := by decide +kernel
theorem dX10_change_17 : decode cX10_change 17 = .ok (.iload_n 2, 1) := by decide +kernel
theorem dX10_change_18 : decode cX10_change 18 = .ok (.if_icmp .ne 6, 3) := by decide +kernel
theorem dX10_change_21 : decode cX10_change 21 = .ok (.bipush (-101), 2) := by decide +kernel
theorem dX10_change_23 : decode cX10_change 23 = .ok (.ireturn, 1) := by decide +kernel
theorem dX10_change_24 : decode cX10_change 24 = .ok (.aload_n 0, 1) := by decide +kernel
theorem dX10_change_25 : decode cX10_change 25 = .ok (.getfield 31, 3) := by decide +kernel
theorem dX10_change_28 : decode cX10_change 28 = .ok (.iload_n 1, 1) := by decide +kernel
theorem dX10_change_29 : decode cX10_change 29 = .ok (.iload_n 2, 1) := by decide +kernel
theorem dX10_change_30 : decode cX10_change 30 = .ok (.invokevirtual 140, 3) := by decide +kernel
theorem dX10_change_33 : decode cX10_change 33 = .ok (.aload_n 0, 1) := by decide +kernel
theorem dX10_change_34 : decode cX10_change 34 = .ok (.getfield 31, 3) := by decide +kernel
theorem dX10_change_37 : decode cX10_change 37 = .ok (.getfield 144, 3) := by decide +kernel
theorem dX10_change_40 : decode cX10_change 40 = .ok (.iload_n 1, 1) := by decide +kernel
theorem dX10_change_41 : decode cX10_change 41 = .ok (.iaload, 1) := by decide +kernel
theorem dX10_change_42 : decode cX10_change 42 = .ok (.ireturn, 1) := by decide +kernel
theorem dX10_soup_0 : decode cX10_soup 0 = .ok (.iload_n 1, 1) := by decide +kernel
theorem dX10_soup_1 : decode cX10_soup 1 = .ok (.iconst 0, 1) := by decide +kernel
theorem dX10_soup_2 : decode cX10_soup 2 = .ok (.iconst 4, 1) := by decide +kernel
theorem dX10_soup_3 : decode cX10_soup 3 = .ok (.invokestatic 102, 3) := by decide +kernel
theorem dX10_soup_6 : decode cX10_soup 6 = .ok (.ifCond .ne 6, 3) := by decide +kernel
theorem dX10_soup_9 : decode cX10_soup 9 = .ok (.bipush (-101), 2) := by decide +kernel
theorem dX10_soup_11 : decode cX10_soup 11 = .ok (.ireturn, 1) := by decide +kernel
theorem dX10_soup_12 : decode cX10_soup 12 = .ok (.iload_n 2, 1) := by decide +kernel
theorem dX10_soup_13 : decode cX10_soup 13 = .ok (.iconst 0, 1) := by decide +kernel
theorem dX10_soup_14 : decode cX10_soup 14 = .ok (.bipush 99, 2) := by decide +kernel
theorem dX10_soup_16 : decode cX10_soup 16 = .ok (.invokestatic 102, 3) := by decide +kernel
theorem dX10_soup_19 : decode cX10_soup 19 = .ok (.ifCond .ne 6, 3) := by decide +kernel
theorem dX10_soup_22 : decode cX10_soup 22 = .ok (.bipush (-102), 2) := by decide +kernel
theorem dX10_soup_24 : decode cX10_soup 24 = .ok (.ireturn, 1) := by decide +kernel
theorem dX10_soup_25 : decode cX10_soup 25 = .ok (.aload_n 0, 1) := by decide +kernel
theorem dX10_soup_26 : decode cX10_soup 26 = .ok (.getfield 31, 3) := by decide +kernel
theorem dX10_soup_29 : decode cX10_soup 29 = .ok (.getfield 147, 3) := by decide +kernel
theorem dX10_soup_32 : decode cX10_soup 32 = .ok (.iload_n 1, 1) := by decide +kernel
theorem dX10_soup_33 : decode cX10_soup 33 = .ok (.iaload, 1) := by decide +kernel
theorem dX10_soup_34 : decode cX10_soup 34 = .ok (.istore_n 3, 1) := by decide +kernel
theorem dX10_soup_35 : decode cX10_soup 35 = .ok (.aload_n 0, 1) := by decide +kernel
theorem dX10_soup_36 : decode cX10_soup 36 = .ok (.getfield 31, 3) := by decide +kernel
theorem dX10_soup_39 : decode cX10_soup 39 = .ok (.getfield 147, 3) := by decide +kernel
theorem dX10_soup_42 : decode cX10_soup 42 = .ok (.iload_n 1, 1) := by decide +kernel
theorem dX10_soup_43 : decode cX10_soup 43 = .ok (.iload_n 2, 1) := by decide +kernel
theorem dX10_soup_44 : decode cX10_soup 44 = .ok (.iastore, 1) := by decide +kernel
theorem dX10_soup_45 : decode cX10_soup 45 = .ok (.iload_n 3, 1) := by decide +kernel
theorem dX10_soup_46 : decode cX10_soup 46 = .ok (.ireturn, 1) := by decide +kernel
theorem dX10_heat_0 : decode cX10_heat 0 = .ok (.iload_n 1, 1) := by decide +kernel
theorem dX10_heat_1 : decode cX10_heat 1 = .ok (.iconst 0, 1) := by decide +kernel
theorem dX10_heat_2 : decode cX10_heat 2 = .ok (.sipush 300, 3) := by decide +kernel
theorem dX10_heat_5 : decode cX10_heat 5 = .ok (.invokestatic 102, 3) := by decide +kernel
theorem dX10_heat_8 : decode cX10_heat 8 = .ok (.ifCond .ne 6, 3) := by decide +kernel
theorem dX10_heat_11 : decode cX10_heat 11 = .ok (.bipush (-102), 2) := by decide +kernel
theorem dX10_heat_13 : decode cX10_heat 13 = .ok (.ireturn, 1) := by decide +kernel
theorem dX10_heat_14 : decode cX10_heat 14 = .ok (.aload_n 0, 1) := by decide +kernel
theorem dX10_heat_15 : decode cX10_heat 15 = .ok (.getfield 31, 3) := by decide +kernel
theorem dX10_heat_18 : decode cX10_heat 18 = .ok (.getfield 150, 3) := by decide +kernel
theorem dX10_heat_21 : decode cX10_heat 21 = .ok (.istore_n 2, 1) := by decide +kernel
theorem dX10_heat_22 : decode cX10_heat 22 = .ok (.aload_n 0, 1) := by decide +kernel
theorem dX10_heat_23 : decode cX10_heat 23 = .ok (.getfield 31, 3) := by decide +kernel
theorem dX10_heat_26 : decode cX10_heat 26 = .ok (.iload_n 1, 1) := by decide +kernel
theorem dX10_heat_27 : decode cX10_heat 27 = .ok (.putfield 150, 3) := by decide +kernel
theorem dX10_heat_30 : decode cX10_heat 30 = .ok (.iload_n 2, 1) := by decide +kernel
theorem dX10_heat_31 : decode cX10_heat 31 = .ok (.ireturn, 1) := by decide +kernel
theorem dX10_feast_0 : decode cX10_feast 0 = .ok (.aload_n 0, 1) := by decide +kernel
theorem dX10_feast_1 : decode cX10_feast 1 = .ok (.getfield 31, 3) := by decide +kernel
theorem dX10_feast_4 : decode cX10_feast 4 = .ok (.getfield 153, 3) := by decide +kernel
theorem dX10_feast_7 : decode cX10_feast 7 = .ok (.invokestatic 156, 3) := by decide +kernel
theorem dX10_feast_10 : decode cX10_feast 10 = .ok (.istore_n 2, 1) := by decide +kernel
theorem dX10_feast_11 : decode cX10_feast 11 = .ok (.aload_n 0, 1) := by decide +kernel
theorem dX10_feast_12 : decode cX10_feast 12 = .ok (.getfield 31, 3) := by decide +kernel
theorem dX10_feast_15 : decode cX10_feast 15 = .ok (.iload_n 1, 1) := by decide +kernel
theorem dX10_feast_16 : decode cX10_feast 16 = .ok (.putfield 153, 3) := by decide +kernel
theorem dX10_feast_19 : decode cX10_feast 19 = .ok (.iload_n 2, 1) := by decide +kernel
theorem dX10_feast_20 : decode cX10_feast 20 = .ok (.ireturn, 1) := by decide +kernel
theorem dX10_day_0 : decode cX10_day 0 = .ok (.aload_n 0, 1) := by decide +kernel
theorem dX10_day_1 : decode cX10_day 1 = .ok (.iload_n 1, 1) := by decide +kernel
theorem dX10_day_2 : decode cX10_day 2 = .ok (.invokevirtual 94, 3) := by decide +kernel
theorem dX10_day_5 : decode cX10_day 5 = .ok (.astore 5, 2) := by decide +kernel
theorem dX10_day_7 : decode cX10_day 7 = .ok (.aload 5, 2) := by decide +kernel
theorem dX10_day_9 : decode cX10_day 9 = .ok (.ifnull 11, 3) := by decide +kernel
theorem dX10_day_12 : decode cX10_day 12 = .ok (.aload_n 0, 1) := by decide +kernel
theorem dX10_day_13 : decode cX10_day 13 = .ok (.iload_n 2, 1) := by decide +kernel
theorem dX10_day_14 : decode cX10_day 14 = .ok (.invokevirtual 137, 3) := by decide +kernel
theorem dX10_day_17 : decode cX10_day 17 = .ok (.ifCond .ne 6, 3) := by decide +kernel
theorem dX10_day_20 : decode cX10_day 20 = .ok (.bipush (-101), 2) := by decide +kernel
theorem dX10_day_22 : decode cX10_day 22 = .ok (.ireturn, 1) := by decide +kernel
theorem dX10_day_23 : decode cX10_day 23 = .ok (.aload_n 0, 1) := by decide +kernel
theorem dX10_day_24 : decode cX10_day 24 = .ok (.iload_n 3, 1) := by decide +kernel
theorem dX10_day_25 : decode cX10_day 25 = .ok (.invokevirtual 160, 3) := by decide +kernel
theorem dX10_day_28 : decode cX10_day 28 = .ok (.ifCond .eq 13, 3) := by decide +kernel
theorem dX10_day_31 : decode cX10_day 31 = .ok (.iload 4, 2) := by decide +kernel
theorem dX10_day_33 : decode cX10_day 33 = .ok (.iconst 0, 1) := by decide +kernel
theorem dX10_day_34 : decode cX10_day 34 = .ok (.iconst 5, 1) := by decide +kernel
theorem dX10_day_35 : decode cX10_day 35 = .ok (.invokestatic 102, 3) := by decide +kernel
theorem dX10_day_38 : decode cX10_day 38 = .ok (.ifCond .ne 6, 3) := by decide +kernel
theorem dX10_day_41 : decode cX10_day 41 = .ok (.bipush (-102), 2) := by decide +kernel
theorem dX10_day_43 : decode cX10_day 43 = .ok (.ireturn, 1) := by decide +kernel
theorem dX10_day_44 : decode cX10_day 44 = .ok (.aload_n 0, 1) := by decide +kernel
theorem dX10_day_45 : decode cX10_day 45 = .ok (.getfield 47, 3) := by decide +kernel
theorem dX10_day_48 : decode cX10_day 48 = .ok (.aload_n 0, 1) := by decide +kernel
theorem dX10_day_49 : decode cX10_day 49 = .ok (.getfield 31, 3) := by decide +kernel
theorem dX10_day_52 : decode cX10_day 52 = .ok (.aload 5, 2) := by decide +kernel
theorem dX10_day_54 : decode cX10_day 54 = .ok (.iload_n 2, 1) := by decide +kernel
theorem dX10_day_55 : decode cX10_day 55 = .ok (.iload_n 3, 1) := by decide +kernel
theorem dX10_day_56 : decode cX10_day 56 = .ok (.invokevirtual 163, 3) := by decide +kernel
theorem dX10_day_59 : decode cX10_day 59 = .ok (.aload_n 0, 1) := by decide +kernel
theorem dX10_day_60 : decode cX10_day 60 = .ok (.getfield 47, 3) := by decide +kernel
theorem dX10_day_63 : decode cX10_day 63 = .ok (.iload 4, 2) := by decide +kernel
theorem dX10_day_65 : decode cX10_day 65 = .ok (.invokevirtual 167, 3) := by decide +kernel
theorem dX10_day_68 : decode cX10_day 68 = .ok (.ireturn, 1) := by decide +kernel
theorem dX10_meal_0 : decode cX10_meal 0 = .ok (.aload_n 0, 1) := by decide +kernel
theorem dX10_meal_1 : decode cX10_meal 1 = .ok (.iload_n 1, 1) := by decide +kernel
theorem dX10_meal_2 : decode cX10_meal 2 = .ok (.invokevirtual 94, 3) := by decide +kernel
theorem dX10_meal_5 : decode cX10_meal 5 = .ok (.astore 5, 2) := by decide +kernel
theorem dX10_meal_7 : decode cX10_meal 7 = .ok (.aload 5, 2) := by decide +kernel
theorem dX10_meal_9 : decode cX10_meal 9 = .ok (.ifnull 20, 3) := by decide +kernel
theorem dX10_meal_12 : decode cX10_meal 12 = .ok (.aload_n 0, 1) := by decide +kernel
theorem dX10_meal_13 : decode cX10_meal 13 = .ok (.iload_n 2, 1) := by decide +kernel
theorem dX10_meal_14 : decode cX10_meal 14 = .ok (.invokevirtual 137, 3) := by decide +kernel
theorem dX10_meal_17 : decode cX10_meal 17 = .ok (.ifCond .eq 12, 3) := by decide +kernel
theorem dX10_meal_20 : decode cX10_meal 20 = .ok (.aload_n 0, 1) := by decide +kernel
theorem dX10_meal_21 : decode cX10_meal 21 = .ok (.iload 4, 2) := by decide +kernel
theorem dX10_meal_23 : decode cX10_meal 23 = .ok (.invokevirtual 120, 3) := by decide +kernel
theorem dX10_meal_26 : decode cX10_meal 26 = .ok (.ifCond .ne 6, 3) := by decide +kernel
theorem dX10_meal_29 : decode cX10_meal 29 = .ok (.bipush (-101), 2) := by decide +kernel
theorem dX10_meal_31 : decode cX10_meal 31 = .ok (.ireturn, 1) := by decide +kernel
theorem dX10_meal_32 : decode cX10_meal 32 = .ok (.aload_n 0, 1) := by decide +kernel
theorem dX10_meal_33 : decode cX10_meal 33 = .ok (.iload_n 3, 1) := by decide +kernel
theorem dX10_meal_34 : decode cX10_meal 34 = .ok (.invokevirtual 160, 3) := by decide +kernel
theorem dX10_meal_37 : decode cX10_meal 37 = .ok (.ifCond .ne 6, 3) := by decide +kernel
theorem dX10_meal_40 : decode cX10_meal 40 = .ok (.bipush (-102), 2) := by decide +kernel
theorem dX10_meal_42 : decode cX10_meal 42 = .ok (.ireturn, 1) := by decide +kernel
theorem dX10_meal_43 : decode cX10_meal 43 = .ok (.aload_n 0, 1) := by decide +kernel
theorem dX10_meal_44 : decode cX10_meal 44 = .ok (.getfield 47, 3) := by decide +kernel
theorem dX10_meal_47 : decode cX10_meal 47 = .ok (.aload_n 0, 1) := by decide +kernel
theorem dX10_meal_48 : decode cX10_meal 48 = .ok (.getfield 31, 3) := by decide +kernel
theorem dX10_meal_51 : decode cX10_meal 51 = .ok (.aload 5, 2) := by decide +kernel
theorem dX10_meal_53 : decode cX10_meal 53 = .ok (.iload_n 2, 1) := by decide +kernel
theorem dX10_meal_54 : decode cX10_meal 54 = .ok (.iload_n 3, 1) := by decide +kernel
theorem dX10_meal_55 : decode cX10_meal 55 = .ok (.invokevirtual 163, 3) := by decide +kernel
theorem dX10_meal_58 : decode cX10_meal 58 = .ok (.aload_n 0, 1) := by decide +kernel
theorem dX10_meal_59 : decode cX10_meal 59 = .ok (.getfield 47, 3) := by decide +kernel
theorem dX10_meal_62 : decode cX10_meal 62 = .ok (.getfield 168, 3) := by decide +kernel
theorem dX10_meal_65 : decode cX10_meal 65 = .ok (.iload 4, 2) := by decide +kernel
theorem dX10_meal_67 : decode cX10_meal 67 = .ok (.iaload, 1) := by decide +kernel
theorem dX10_meal_68 : decode cX10_meal 68 = .ok (.ireturn, 1) := by decide +kernel
theorem dX10_bite_0 : decode cX10_bite 0 = .ok (.aload_n 0, 1) := by decide +kernel
theorem dX10_bite_1 : decode cX10_bite 1 = .ok (.iload_n 1, 1) := by decide +kernel
theorem dX10_bite_2 : decode cX10_bite 2 = .ok (.invokevirtual 94, 3) := by decide +kernel
theorem dX10_bite_5 : decode cX10_bite 5 = .ok (.astore 6, 2) := by decide +kernel
theorem dX10_bite_7 : decode cX10_bite 7 = .ok (.aload 6, 2) := by decide +kernel
theorem dX10_bite_9 : decode cX10_bite 9 = .ok (.ifnull 11, 3) := by decide +kernel
theorem dX10_bite_12 : decode cX10_bite 12 = .ok (.aload_n 0, 1) := by decide +kernel
theorem dX10_bite_13 : decode cX10_bite 13 = .ok (.iload_n 2, 1) := by decide +kernel
theorem dX10_bite_14 : decode cX10_bite 14 = .ok (.invokevirtual 137, 3) := by decide +kernel
theorem dX10_bite_17 : decode cX10_bite 17 = .ok (.ifCond .ne 6, 3) := by decide +kernel
theorem dX10_bite_20 : decode cX10_bite 20 = .ok (.bipush (-101), 2) := by decide +kernel
theorem dX10_bite_22 : decode cX10_bite 22 = .ok (.ireturn, 1) := by decide +kernel
theorem dX10_bite_23 : decode cX10_bite 23 = .ok (.aload_n 0, 1) := by decide +kernel
theorem dX10_bite_24 : decode cX10_bite 24 = .ok (.iload_n 3, 1) := by decide +kernel
theorem dX10_bite_25 : decode cX10_bite 25 = .ok (.invokevirtual 160, 3) := by decide +kernel
theorem dX10_bite_28 : decode cX10_bite 28 = .ok (.ifCond .eq 25, 3) := by decide +kernel
theorem dX10_bite_31 : decode cX10_bite 31 = .ok (.iload 4, 2) := by decide +kernel
theorem dX10_bite_33 : decode cX10_bite 33 = .ok (.iconst 0, 1) := by decide +kernel
theorem dX10_bite_34 : decode cX10_bite 34 = .ok (.sipush 599, 3) := by decide +kernel
theorem dX10_bite_37 : decode cX10_bite 37 = .ok (.invokestatic 102, 3) := by decide +kernel
theorem dX10_bite_40 : decode cX10_bite 40 = .ok (.ifCond .eq 13, 3) := by decide +kernel
theorem dX10_bite_43 : decode cX10_bite 43 = .ok (.iload 5, 2) := by decide +kernel
theorem dX10_bite_45 : decode cX10_bite 45 = .ok (.iconst 0, 1) := by decide +kernel
theorem dX10_bite_46 : decode cX10_bite 46 = .ok (.iconst 4, 1) := by decide +kernel
theorem dX10_bite_47 : decode cX10_bite 47 = .ok (.invokestatic 102, 3) := by decide +kernel
theorem dX10_bite_50 : decode cX10_bite 50 = .ok (.ifCond .ne 6, 3) := by decide +kernel
theorem dX10_bite_53 : decode cX10_bite 53 = .ok (.bipush (-102), 2) := by decide +kernel
theorem dX10_bite_55 : decode cX10_bite 55 = .ok (.ireturn, 1) := by decide +kernel
theorem dX10_bite_56 : decode cX10_bite 56 = .ok (.aload_n 0, 1) := by decide +kernel
theorem dX10_bite_57 : decode cX10_bite 57 = .ok (.getfield 47, 3) := by decide +kernel
theorem dX10_bite_60 : decode cX10_bite 60 = .ok (.aload_n 0, 1) := by decide +kernel
theorem dX10_bite_61 : decode cX10_bite 61 = .ok (.getfield 31, 3) := by decide +kernel
theorem dX10_bite_64 : decode cX10_bite 64 = .ok (.invokevirtual 171, 3) := by decide +kernel
theorem dX10_bite_67 : decode cX10_bite 67 = .ok (.aload_n 0, 1) := by decide +kernel
theorem dX10_bite_68 : decode cX10_bite 68 = .ok (.getfield 47, 3) := by decide +kernel
theorem dX10_bite_71 : decode cX10_bite 71 = .ok (.iload 4, 2) := by decide +kernel
theorem dX10_bite_73 : decode cX10_bite 73 = .ok (.putfield 174, 3) := by decide +kernel
theorem dX10_bite_76 : decode cX10_bite 76 = .ok (.aload_n 0, 1) := by decide +kernel
theorem dX10_bite_77 : decode cX10_bite 77 = .ok (.getfield 47, 3) := by decide +kernel
theorem dX10_bite_80 : decode cX10_bite 80 = .ok (.aload 6, 2) := by decide +kernel
theorem dX10_bite_82 : decode cX10_bite 82 = .ok (.aload 6, 2) := by decide +kernel
theorem dX10_bite_84 : decode cX10_bite 84 = .ok (.getfield 177, 3) := by decide +kernel
theorem dX10_bite_87 : decode cX10_bite 87 = .ok (.iload_n 2, 1) := by decide +kernel
theorem dX10_bite_88 : decode cX10_bite 88 = .ok (.iload_n 3, 1) := by decide +kernel
theorem dX10_bite_89 : decode cX10_bite 89 = .ok (.sipush 300, 3) := by decide +kernel
theorem dX10_bite_92 : decode cX10_bite 92 = .ok (.invokevirtual 180, 3) := by decide +kernel
theorem dX10_bite_95 : decode cX10_bite 95 = .ok (.aload_n 0, 1) := by decide +kernel
theorem dX10_bite_96 : decode cX10_bite 96 = .ok (.getfield 47, 3) := by decide +kernel
theorem dX10_bite_99 : decode cX10_bite 99 = .ok (.getfield 184, 3) := by decide +kernel
theorem dX10_bite_102 : decode cX10_bite 102 = .ok (.iload 4, 2) := by decide +kernel
theorem dX10_bite_104 : decode cX10_bite 104 = .ok (.if_icmp .le 16, 3) := by decide +kernel
theorem dX10_bite_107 : decode cX10_bite 107 = .ok (.aload_n 0, 1) := by decide +kernel
theorem dX10_bite_108 : decode cX10_bite 108 = .ok (.getfield 47, 3) := by decide +kernel
theorem dX10_bite_111 : decode cX10_bite 111 = .ok (.getfield 187, 3) := by decide +kernel
theorem dX10_bite_114 : decode cX10_bite 114 = .ok (.iload 5, 2) := by decide +kernel
theorem dX10_bite_116 : decode cX10_bite 116 = .ok (.iaload, 1) := by decide +kernel
theorem dX10_bite_117 : decode cX10_bite 117 = .ok (.goto 4, 3) := by decide +kernel
theorem dX10_bite_120 : decode cX10_bite 120 = .ok (.iconst (-1), 1) := by decide +kernel
theorem dX10_bite_121 : decode cX10_bite 121 = .ok (.ireturn, 1) := by decide +kernel
theorem dX10_least_0 : decode cX10_least 0 = .ok (.aload_n 0, 1) := by decide +kernel
theorem dX10_least_1 : decode cX10_least 1 = .ok (.iload_n 1, 1) := by decide +kernel
theorem dX10_least_2 : decode cX10_least 2 = .ok (.invokevirtual 94, 3) := by decide +kernel
theorem dX10_least_5 : decode cX10_least 5 = .ok (.astore_n 3, 1) := by decide +kernel
theorem dX10_least_6 : decode cX10_least 6 = .ok (.aload_n 3, 1) := by decide +kernel
theorem dX10_least_7 : decode cX10_least 7 = .ok (.ifnull 11, 3) := by decide +kernel
theorem dX10_least_10 : decode cX10_least 10 = .ok (.aload_n 0, 1) := by decide +kernel
theorem dX10_least_11 : decode cX10_least 11 = .ok (.iload_n 2, 1) := by decide +kernel
theorem dX10_least_12 : decode cX10_least 12 = .ok (.invokevirtual 137, 3) := by decide +kernel
theorem dX10_least_15 : decode cX10_least 15 = .ok (.ifCond .ne 7, 3) := by decide +kernel
theorem dX10_least_18 : decode cX10_least 18 = .ok (.sipush (-1001), 3) := by decide +kernel
theorem dX10_least_21 : decode cX10_least 21 = .ok (.ireturn, 1) := by decide +kernel
theorem dX10_least_22 : decode cX10_least 22 = .ok (.aload_n 0, 1) := by decide +kernel
theorem dX10_least_23 : decode cX10_least 23 = .ok (.getfield 47, 3) := by decide +kernel
theorem dX10_least_26 : decode cX10_least 26 = .ok (.aload_n 0, 1) := by decide +kernel
theorem dX10_least_27 : decode cX10_least 27 = .ok (.getfield 31, 3) := by decide +kernel
theorem dX10_least_30 : decode cX10_least 30 = .ok (.aload_n 3, 1) := by decide +kernel
theorem dX10_least_31 : decode cX10_least 31 = .ok (.aload_n 3, 1) := by decide +kernel
theorem dX10_least_32 : decode cX10_least 32 = .ok (.getfield 177, 3) := by decide +kernel
theorem dX10_least_35 : decode cX10_least 35 = .ok (.iload_n 2, 1) := by decide +kernel
theorem dX10_least_36 : decode cX10_least 36 = .ok (.invokevirtual 190, 3) := by decide +kernel
theorem dX10_least_39 : decode cX10_least 39 = .ok (.ireturn, 1) := by decide +kernel
theorem dX10_bestStart_0 : decode cX10_bestStart 0 = .ok (.aload_n 0, 1) := by decide +kernel
theorem dX10_bestStart_1 : decode cX10_bestStart 1 = .ok (.iload_n 1, 1) := by decide +kernel
theorem dX10_bestStart_2 : decode cX10_bestStart 2 = .ok (.invokevirtual 94, 3) := by decide +kernel
theorem dX10_bestStart_5 : decode cX10_bestStart 5 = .ok (.astore_n 2, 1) := by decide +kernel
theorem dX10_bestStart_6 : decode cX10_bestStart 6 = .ok (.aload_n 2, 1) := by decide +kernel
theorem dX10_bestStart_7 : decode cX10_bestStart 7 = .ok (.ifnonnull 6, 3) := by decide +kernel
theorem dX10_bestStart_10 : decode cX10_bestStart 10 = .ok (.bipush (-101), 2) := by decide +kernel
theorem dX10_bestStart_12 : decode cX10_bestStart 12 = .ok (.ireturn, 1) := by decide +kernel
theorem dX10_bestStart_13 : decode cX10_bestStart 13 = .ok (.aload_n 0, 1) := by decide +kernel
theorem dX10_bestStart_14 : decode cX10_bestStart 14 = .ok (.getfield 12, 3) := by decide +kernel
theorem dX10_bestStart_17 : decode cX10_bestStart 17 = .ok (.invokevirtual 194, 3) := by decide +kernel
theorem dX10_bestStart_20 : decode cX10_bestStart 20 = .ok (.ifCond .eq 8, 3) := by decide +kernel
theorem dX10_bestStart_23 : decode cX10_bestStart 23 = .ok (.bipush (-103), 2) := by decide +kernel
theorem dX10_bestStart_25 : decode cX10_bestStart 25 = .ok (.goto 15, 3) := by decide +kernel
theorem dX10_bestStart_28 : decode cX10_bestStart 28 = .ok (.aload_n 0, 1) := by decide +kernel
theorem dX10_bestStart_29 : decode cX10_bestStart 29 = .ok (.getfield 56, 3) := by decide +kernel
theorem dX10_bestStart_32 : decode cX10_bestStart 32 = .ok (.aload_n 0, 1) := by decide +kernel
theorem dX10_bestStart_33 : decode cX10_bestStart 33 = .ok (.getfield 31, 3) := by decide +kernel
theorem dX10_bestStart_36 : decode cX10_bestStart 36 = .ok (.aload_n 2, 1) := by decide +kernel
theorem dX10_bestStart_37 : decode cX10_bestStart 37 = .ok (.invokevirtual 198, 3) := by decide +kernel
theorem dX10_bestStart_40 : decode cX10_bestStart 40 = .ok (.ireturn, 1) := by decide +kernel
theorem dX10_bestSwap_0 : decode cX10_bestSwap 0 = .ok (.aload_n 0, 1) := by decide +kernel
theorem dX10_bestSwap_1 : decode cX10_bestSwap 1 = .ok (.iload_n 1, 1) := by decide +kernel
theorem dX10_bestSwap_2 : decode cX10_bestSwap 2 = .ok (.invokevirtual 94, 3) := by decide +kernel
theorem dX10_bestSwap_5 : decode cX10_bestSwap 5 = .ok (.astore_n 3, 1) := by decide +kernel
theorem dX10_bestSwap_6 : decode cX10_bestSwap 6 = .ok (.aload_n 3, 1) := by decide +kernel
theorem dX10_bestSwap_7 : decode cX10_bestSwap 7 = .ok (.ifnull 11, 3) := by decide +kernel
theorem dX10_bestSwap_10 : decode cX10_bestSwap 10 = .ok (.aload_n 0, 1) := by decide +kernel
theorem dX10_bestSwap_11 : decode cX10_bestSwap 11 = .ok (.iload_n 2, 1) := by decide +kernel
theorem dX10_bestSwap_12 : decode cX10_bestSwap 12 = .ok (.invokevirtual 137, 3) := by decide +kernel
theorem dX10_bestSwap_15 : decode cX10_bestSwap 15 = .ok (.ifCond .ne 6, 3) := by decide +kernel
theorem dX10_bestSwap_18 : decode cX10_bestSwap 18 = .ok (.bipush (-101), 2) := by decide +kernel
theorem dX10_bestSwap_20 : decode cX10_bestSwap 20 = .ok (.ireturn, 1) := by decide +kernel
theorem dX10_bestSwap_21 : decode cX10_bestSwap 21 = .ok (.aload_n 0, 1) := by decide +kernel
theorem dX10_bestSwap_22 : decode cX10_bestSwap 22 = .ok (.getfield 56, 3) := by decide +kernel
theorem dX10_bestSwap_25 : decode cX10_bestSwap 25 = .ok (.aload_n 0, 1) := by decide +kernel
theorem dX10_bestSwap_26 : decode cX10_bestSwap 26 = .ok (.getfield 31, 3) := by decide +kernel
theorem dX10_bestSwap_29 : decode cX10_bestSwap 29 = .ok (.aload_n 3, 1) := by decide +kernel
theorem dX10_bestSwap_30 : decode cX10_bestSwap 30 = .ok (.iload_n 2, 1) := by decide +kernel
theorem dX10_bestSwap_31 : decode cX10_bestSwap 31 = .ok (.invokevirtual 202, 3) := by decide +kernel
theorem dX10_bestSwap_34 : decode cX10_bestSwap 34 = .ok (.ireturn, 1) := by decide +kernel
theorem dX10_bestStir_0 : decode cX10_bestStir 0 = .ok (.aload_n 0, 1) := by decide +kernel
theorem dX10_bestStir_1 : decode cX10_bestStir 1 = .ok (.iload_n 1, 1) := by decide +kernel
theorem dX10_bestStir_2 : decode cX10_bestStir 2 = .ok (.invokevirtual 94, 3) := by decide +kernel
theorem dX10_bestStir_5 : decode cX10_bestStir 5 = .ok (.astore_n 3, 1) := by decide +kernel
theorem dX10_bestStir_6 : decode cX10_bestStir 6 = .ok (.aload_n 3, 1) := by decide +kernel
theorem dX10_bestStir_7 : decode cX10_bestStir 7 = .ok (.ifnull 11, 3) := by decide +kernel
theorem dX10_bestStir_10 : decode cX10_bestStir 10 = .ok (.aload_n 0, 1) := by decide +kernel
theorem dX10_bestStir_11 : decode cX10_bestStir 11 = .ok (.iload_n 2, 1) := by decide +kernel
theorem dX10_bestStir_12 : decode cX10_bestStir 12 = .ok (.invokevirtual 137, 3) := by decide +kernel
theorem dX10_bestStir_15 : decode cX10_bestStir 15 = .ok (.ifCond .ne 6, 3) := by decide +kernel
theorem dX10_bestStir_18 : decode cX10_bestStir 18 = .ok (.bipush (-101), 2) := by decide +kernel
theorem dX10_bestStir_20 : decode cX10_bestStir 20 = .ok (.ireturn, 1) := by decide +kernel
theorem dX10_bestStir_21 : decode cX10_bestStir 21 = .ok (.aload_n 0, 1) := by decide +kernel
theorem dX10_bestStir_22 : decode cX10_bestStir 22 = .ok (.getfield 56, 3) := by decide +kernel
theorem dX10_bestStir_25 : decode cX10_bestStir 25 = .ok (.aload_n 0, 1) := by decide +kernel
theorem dX10_bestStir_26 : decode cX10_bestStir 26 = .ok (.getfield 31, 3) := by decide +kernel
theorem dX10_bestStir_29 : decode cX10_bestStir 29 = .ok (.aload_n 3, 1) := by decide +kernel
theorem dX10_bestStir_30 : decode cX10_bestStir 30 = .ok (.iload_n 2, 1) := by decide +kernel
theorem dX10_bestStir_31 : decode cX10_bestStir 31 = .ok (.invokevirtual 206, 3) := by decide +kernel
theorem dX10_bestStir_34 : decode cX10_bestStir 34 = .ok (.ireturn, 1) := by decide +kernel
theorem dX10_live_0 : decode cX10_live 0 = .ok (.aload_n 0, 1) := by decide +kernel
theorem dX10_live_1 : decode cX10_live 1 = .ok (.iload_n 1, 1) := by decide +kernel
theorem dX10_live_2 : decode cX10_live 2 = .ok (.invokevirtual 94, 3) := by decide +kernel
theorem dX10_live_5 : decode cX10_live 5 = .ok (.astore 4, 2) := by decide +kernel
theorem dX10_live_7 : decode cX10_live 7 = .ok (.aload 4, 2) := by decide +kernel
theorem dX10_live_9 : decode cX10_live 9 = .ok (.ifnull 11, 3) := by decide +kernel
theorem dX10_live_12 : decode cX10_live 12 = .ok (.aload_n 0, 1) := by decide +kernel
theorem dX10_live_13 : decode cX10_live 13 = .ok (.iload_n 2, 1) := by decide +kernel
theorem dX10_live_14 : decode cX10_live 14 = .ok (.invokevirtual 137, 3) := by decide +kernel
theorem dX10_live_17 : decode cX10_live 17 = .ok (.ifCond .ne 6, 3) := by decide +kernel
theorem dX10_live_20 : decode cX10_live 20 = .ok (.bipush (-101), 2) := by decide +kernel
theorem dX10_live_22 : decode cX10_live 22 = .ok (.ireturn, 1) := by decide +kernel
theorem dX10_live_23 : decode cX10_live 23 = .ok (.aload_n 0, 1) := by decide +kernel
theorem dX10_live_24 : decode cX10_live 24 = .ok (.iload_n 3, 1) := by decide +kernel
theorem dX10_live_25 : decode cX10_live 25 = .ok (.invokevirtual 160, 3) := by decide +kernel
theorem dX10_live_28 : decode cX10_live 28 = .ok (.ifCond .ne 6, 3) := by decide +kernel
theorem dX10_live_31 : decode cX10_live 31 = .ok (.bipush (-102), 2) := by decide +kernel
theorem dX10_live_33 : decode cX10_live 33 = .ok (.ireturn, 1) := by decide +kernel
theorem dX10_live_34 : decode cX10_live 34 = .ok (.aload_n 0, 1) := by decide +kernel
theorem dX10_live_35 : decode cX10_live 35 = .ok (.getfield 47, 3) := by decide +kernel
theorem dX10_live_38 : decode cX10_live 38 = .ok (.aload_n 0, 1) := by decide +kernel
theorem dX10_live_39 : decode cX10_live 39 = .ok (.getfield 31, 3) := by decide +kernel
theorem dX10_live_42 : decode cX10_live 42 = .ok (.aload 4, 2) := by decide +kernel
theorem dX10_live_44 : decode cX10_live 44 = .ok (.iload_n 2, 1) := by decide +kernel
theorem dX10_live_45 : decode cX10_live 45 = .ok (.iload_n 3, 1) := by decide +kernel
theorem dX10_live_46 : decode cX10_live 46 = .ok (.invokevirtual 163, 3) := by decide +kernel
theorem dX10_live_49 : decode cX10_live 49 = .ok (.aload_n 0, 1) := by decide +kernel
theorem dX10_live_50 : decode cX10_live 50 = .ok (.getfield 31, 3) := by decide +kernel
theorem dX10_live_53 : decode cX10_live 53 = .ok (.aload_n 0, 1) := by decide +kernel
theorem dX10_live_54 : decode cX10_live 54 = .ok (.getfield 47, 3) := by decide +kernel
theorem dX10_live_57 : decode cX10_live 57 = .ok (.getfield 168, 3) := by decide +kernel
theorem dX10_live_60 : decode cX10_live 60 = .ok (.invokevirtual 209, 3) := by decide +kernel
theorem dX10_live_63 : decode cX10_live 63 = .ok (.ireturn, 1) := by decide +kernel
theorem dX10_starves_0 : decode cX10_starves 0 = .ok (.aload_n 0, 1) := by decide +kernel
theorem dX10_starves_1 : decode cX10_starves 1 = .ok (.iload_n 1, 1) := by decide +kernel
theorem dX10_starves_2 : decode cX10_starves 2 = .ok (.invokevirtual 94, 3) := by decide +kernel
theorem dX10_starves_5 : decode cX10_starves 5 = .ok (.astore 4, 2) := by decide +kernel
theorem dX10_starves_7 : decode cX10_starves 7 = .ok (.aload 4, 2) := by decide +kernel
theorem dX10_starves_9 : decode cX10_starves 9 = .ok (.ifnull 19, 3) := by decide +kernel
theorem dX10_starves_12 : decode cX10_starves 12 = .ok (.aload_n 0, 1) := by decide +kernel
theorem dX10_starves_13 : decode cX10_starves 13 = .ok (.iload_n 2, 1) := by decide +kernel
theorem dX10_starves_14 : decode cX10_starves 14 = .ok (.invokevirtual 137, 3) := by decide +kernel
theorem dX10_starves_17 : decode cX10_starves 17 = .ok (.ifCond .eq 11, 3) := by decide +kernel
theorem dX10_starves_20 : decode cX10_starves 20 = .ok (.aload_n 0, 1) := by decide +kernel
theorem dX10_starves_21 : decode cX10_starves 21 = .ok (.iload_n 3, 1) := by decide +kernel
theorem dX10_starves_22 : decode cX10_starves 22 = .ok (.invokevirtual 120, 3) := by decide +kernel
theorem dX10_starves_25 : decode cX10_starves 25 = .ok (.ifCond .ne 6, 3) := by decide +kernel
theorem dX10_starves_28 : decode cX10_starves 28 = .ok (.bipush (-101), 2) := by decide +kernel
theorem dX10_starves_30 : decode cX10_starves 30 = .ok (.ireturn, 1) := by decide +kernel
theorem dX10_starves_31 : decode cX10_starves 31 = .ok (.aload_n 0, 1) := by decide +kernel
theorem dX10_starves_32 : decode cX10_starves 32 = .ok (.getfield 31, 3) := by decide +kernel
theorem dX10_starves_35 : decode cX10_starves 35 = .ok (.iload_n 3, 1) := by decide +kernel
theorem dX10_starves_36 : decode cX10_starves 36 = .ok (.invokevirtual 213, 3) := by decide +kernel
theorem dX10_starves_39 : decode cX10_starves 39 = .ok (.ifCond .eq 7, 3) := by decide +kernel
theorem dX10_starves_42 : decode cX10_starves 42 = .ok (.iconst 0, 1) := by decide +kernel
theorem dX10_starves_43 : decode cX10_starves 43 = .ok (.goto 23, 3) := by decide +kernel
theorem dX10_starves_46 : decode cX10_starves 46 = .ok (.aload_n 0, 1) := by decide +kernel
theorem dX10_starves_47 : decode cX10_starves 47 = .ok (.getfield 56, 3) := by decide +kernel
theorem dX10_starves_50 : decode cX10_starves 50 = .ok (.aload_n 0, 1) := by decide +kernel
theorem dX10_starves_51 : decode cX10_starves 51 = .ok (.getfield 31, 3) := by decide +kernel
theorem dX10_starves_54 : decode cX10_starves 54 = .ok (.aload 4, 2) := by decide +kernel
theorem dX10_starves_56 : decode cX10_starves 56 = .ok (.iload_n 2, 1) := by decide +kernel
theorem dX10_starves_57 : decode cX10_starves 57 = .ok (.iconst 0, 1) := by decide +kernel
theorem dX10_starves_58 : decode cX10_starves 58 = .ok (.bipush 60, 2) := by decide +kernel
theorem dX10_starves_60 : decode cX10_starves 60 = .ok (.iconst 1, 1) := by decide +kernel
theorem dX10_starves_61 : decode cX10_starves 61 = .ok (.iload_n 3, 1) := by decide +kernel
theorem dX10_starves_62 : decode cX10_starves 62 = .ok (.ishl, 1) := by decide +kernel
theorem dX10_starves_63 : decode cX10_starves 63 = .ok (.invokevirtual 216, 3) := by decide +kernel
theorem dX10_starves_66 : decode cX10_starves 66 = .ok (.ireturn, 1) := by decide +kernel
theorem dX10_fasting_0 : decode cX10_fasting 0 = .ok (.aload_n 0, 1) := by decide +kernel
theorem dX10_fasting_1 : decode cX10_fasting 1 = .ok (.iload_n 1, 1) := by decide +kernel
theorem dX10_fasting_2 : decode cX10_fasting 2 = .ok (.invokevirtual 94, 3) := by decide +kernel
theorem dX10_fasting_5 : decode cX10_fasting 5 = .ok (.astore 4, 2) := by decide +kernel
theorem dX10_fasting_7 : decode cX10_fasting 7 = .ok (.aload 4, 2) := by decide +kernel
theorem dX10_fasting_9 : decode cX10_fasting 9 = .ok (.ifnull 11, 3) := by decide +kernel
theorem dX10_fasting_12 : decode cX10_fasting 12 = .ok (.aload_n 0, 1) := by decide +kernel
theorem dX10_fasting_13 : decode cX10_fasting 13 = .ok (.iload_n 2, 1) := by decide +kernel
theorem dX10_fasting_14 : decode cX10_fasting 14 = .ok (.invokevirtual 137, 3) := by decide +kernel
theorem dX10_fasting_17 : decode cX10_fasting 17 = .ok (.ifCond .ne 6, 3) := by decide +kernel
theorem dX10_fasting_20 : decode cX10_fasting 20 = .ok (.bipush (-101), 2) := by decide +kernel
theorem dX10_fasting_22 : decode cX10_fasting 22 = .ok (.ireturn, 1) := by decide +kernel
theorem dX10_fasting_23 : decode cX10_fasting 23 = .ok (.iload_n 3, 1) := by decide +kernel
theorem dX10_fasting_24 : decode cX10_fasting 24 = .ok (.iconst 1, 1) := by decide +kernel
theorem dX10_fasting_25 : decode cX10_fasting 25 = .ok (.bipush 30, 2) := by decide +kernel
theorem dX10_fasting_27 : decode cX10_fasting 27 = .ok (.invokestatic 102, 3) := by decide +kernel
theorem dX10_fasting_30 : decode cX10_fasting 30 = .ok (.ifCond .ne 6, 3) := by decide +kernel
theorem dX10_fasting_33 : decode cX10_fasting 33 = .ok (.bipush (-102), 2) := by decide +kernel
theorem dX10_fasting_35 : decode cX10_fasting 35 = .ok (.ireturn, 1) := by decide +kernel
theorem dX10_fasting_36 : decode cX10_fasting 36 = .ok (.iconst 0, 1) := by decide +kernel
theorem dX10_fasting_37 : decode cX10_fasting 37 = .ok (.istore 5, 2) := by decide +kernel
theorem dX10_fasting_39 : decode cX10_fasting 39 = .ok (.iload 5, 2) := by decide +kernel
theorem dX10_fasting_41 : decode cX10_fasting 41 = .ok (.aload_n 0, 1) := by decide +kernel
theorem dX10_fasting_42 : decode cX10_fasting 42 = .ok (.getfield 12, 3) := by decide +kernel
theorem dX10_fasting_45 : decode cX10_fasting 45 = .ok (.invokevirtual 81, 3) := by decide +kernel
theorem dX10_fasting_48 : decode cX10_fasting 48 = .ok (.if_icmp .ge 36, 3) := by decide +kernel
theorem dX10_fasting_51 : decode cX10_fasting 51 = .ok (.aload_n 0, 1) := by decide +kernel
theorem dX10_fasting_52 : decode cX10_fasting 52 = .ok (.getfield 56, 3) := by decide +kernel
theorem dX10_fasting_55 : decode cX10_fasting 55 = .ok (.aload_n 0, 1) := by decide +kernel
theorem dX10_fasting_56 : decode cX10_fasting 56 = .ok (.getfield 31, 3) := by decide +kernel
theorem dX10_fasting_59 : decode cX10_fasting 59 = .ok (.aload 4, 2) := by decide +kernel
theorem dX10_fasting_61 : decode cX10_fasting 61 = .ok (.iload_n 2, 1) := by decide +kernel
theorem dX10_fasting_62 : decode cX10_fasting 62 = .ok (.iload 5, 2) := by decide +kernel
theorem dX10_fasting_64 : decode cX10_fasting 64 = .ok (.iload_n 3, 1) := by decide +kernel
theorem dX10_fasting_65 : decode cX10_fasting 65 = .ok (.sipush 1023, 3) := by decide +kernel
theorem dX10_fasting_68 : decode cX10_fasting 68 = .ok (.invokevirtual 216, 3) := by decide +kernel
theorem dX10_fasting_71 : decode cX10_fasting 71 = .ok (.iconst (-1), 1) := by decide +kernel
theorem dX10_fasting_72 : decode cX10_fasting 72 = .ok (.if_icmp .ne 6, 3) := by decide +kernel
theorem dX10_fasting_75 : decode cX10_fasting 75 = .ok (.iload 5, 2) := by decide +kernel
theorem dX10_fasting_77 : decode cX10_fasting 77 = .ok (.ireturn, 1) := by decide +kernel
theorem dX10_fasting_78 : decode cX10_fasting 78 = .ok (.iinc 5 1, 3) := by decide +kernel
theorem dX10_fasting_81 : decode cX10_fasting 81 = .ok (.goto (-42), 3) := by decide +kernel
theorem dX10_fasting_84 : decode cX10_fasting 84 = .ok (.iconst (-1), 1) := by decide +kernel
theorem dX10_fasting_85 : decode cX10_fasting 85 = .ok (.ireturn, 1) := by decide +kernel
theorem dX10_schism_0 : decode cX10_schism 0 = .ok (.aload_n 0, 1) := by decide +kernel
theorem dX10_schism_1 : decode cX10_schism 1 = .ok (.iload_n 1, 1) := by decide +kernel
theorem dX10_schism_2 : decode cX10_schism 2 = .ok (.invokevirtual 137, 3) := by decide +kernel
theorem dX10_schism_5 : decode cX10_schism 5 = .ok (.ifCond .ne 6, 3) := by decide +kernel
theorem dX10_schism_8 : decode cX10_schism 8 = .ok (.bipush (-101), 2) := by decide +kernel
theorem dX10_schism_10 : decode cX10_schism 10 = .ok (.ireturn, 1) := by decide +kernel
theorem dX10_schism_11 : decode cX10_schism 11 = .ok (.iload_n 2, 1) := by decide +kernel
theorem dX10_schism_12 : decode cX10_schism 12 = .ok (.iconst 0, 1) := by decide +kernel
theorem dX10_schism_13 : decode cX10_schism 13 = .ok (.bipush 11, 2) := by decide +kernel
theorem dX10_schism_15 : decode cX10_schism 15 = .ok (.invokestatic 102, 3) := by decide +kernel
theorem dX10_schism_18 : decode cX10_schism 18 = .ok (.ifCond .ne 6, 3) := by decide +kernel
theorem dX10_schism_21 : decode cX10_schism 21 = .ok (.bipush (-102), 2) := by decide +kernel
theorem dX10_schism_23 : decode cX10_schism 23 = .ok (.ireturn, 1) := by decide +kernel
theorem dX10_schism_24 : decode cX10_schism 24 = .ok (.iload_n 2, 1) := by decide +kernel
theorem dX10_schism_25 : decode cX10_schism 25 = .ok (.bipush 10, 2) := by decide +kernel
theorem dX10_schism_27 : decode cX10_schism 27 = .ok (.if_icmp .ge 13, 3) := by decide +kernel
theorem dX10_schism_30 : decode cX10_schism 30 = .ok (.aload_n 0, 1) := by decide +kernel
theorem dX10_schism_31 : decode cX10_schism 31 = .ok (.iload_n 2, 1) := by decide +kernel
theorem dX10_schism_32 : decode cX10_schism 32 = .ok (.invokevirtual 120, 3) := by decide +kernel
theorem dX10_schism_35 : decode cX10_schism 35 = .ok (.ifCond .ne 5, 3) := by decide +kernel
theorem dX10_schism_38 : decode cX10_schism 38 = .ok (.iconst (-1), 1) := by decide +kernel
theorem dX10_schism_39 : decode cX10_schism 39 = .ok (.ireturn, 1) := by decide +kernel
theorem dX10_schism_40 : decode cX10_schism 40 = .ok (.aload_n 0, 1) := by decide +kernel
theorem dX10_schism_41 : decode cX10_schism 41 = .ok (.getfield 47, 3) := by decide +kernel
theorem dX10_schism_44 : decode cX10_schism 44 = .ok (.aload_n 0, 1) := by decide +kernel
theorem dX10_schism_45 : decode cX10_schism 45 = .ok (.getfield 31, 3) := by decide +kernel
theorem dX10_schism_48 : decode cX10_schism 48 = .ok (.invokevirtual 171, 3) := by decide +kernel
theorem dX10_schism_51 : decode cX10_schism 51 = .ok (.aload_n 0, 1) := by decide +kernel
theorem dX10_schism_52 : decode cX10_schism 52 = .ok (.getfield 47, 3) := by decide +kernel
theorem dX10_schism_55 : decode cX10_schism 55 = .ok (.iload_n 1, 1) := by decide +kernel
theorem dX10_schism_56 : decode cX10_schism 56 = .ok (.invokevirtual 220, 3) := by decide +kernel
theorem dX10_schism_59 : decode cX10_schism 59 = .ok (.iload_n 2, 1) := by decide +kernel
theorem dX10_schism_60 : decode cX10_schism 60 = .ok (.bipush 10, 2) := by decide +kernel
theorem dX10_schism_62 : decode cX10_schism 62 = .ok (.if_icmp .ge 13, 3) := by decide +kernel
theorem dX10_schism_65 : decode cX10_schism 65 = .ok (.aload_n 0, 1) := by decide +kernel
theorem dX10_schism_66 : decode cX10_schism 66 = .ok (.getfield 47, 3) := by decide +kernel
theorem dX10_schism_69 : decode cX10_schism 69 = .ok (.getfield 168, 3) := by decide +kernel
theorem dX10_schism_72 : decode cX10_schism 72 = .ok (.iload_n 2, 1) := by decide +kernel
theorem dX10_schism_73 : decode cX10_schism 73 = .ok (.iaload, 1) := by decide +kernel
theorem dX10_schism_74 : decode cX10_schism 74 = .ok (.ireturn, 1) := by decide +kernel
theorem dX10_schism_75 : decode cX10_schism 75 = .ok (.iload_n 2, 1) := by decide +kernel
theorem dX10_schism_76 : decode cX10_schism 76 = .ok (.bipush 10, 2) := by decide +kernel
theorem dX10_schism_78 : decode cX10_schism 78 = .ok (.if_icmp .ne 13, 3) := by decide +kernel
theorem dX10_schism_81 : decode cX10_schism 81 = .ok (.aload_n 0, 1) := by decide +kernel
theorem dX10_schism_82 : decode cX10_schism 82 = .ok (.getfield 47, 3) := by decide +kernel
theorem dX10_schism_85 : decode cX10_schism 85 = .ok (.getfield 224, 3) := by decide +kernel
theorem dX10_schism_88 : decode cX10_schism 88 = .ok (.goto 10, 3) := by decide +kernel
theorem dX10_schism_91 : decode cX10_schism 91 = .ok (.aload_n 0, 1) := by decide +kernel
theorem dX10_schism_92 : decode cX10_schism 92 = .ok (.getfield 47, 3) := by decide +kernel
theorem dX10_schism_95 : decode cX10_schism 95 = .ok (.getfield 225, 3) := by decide +kernel
theorem dX10_schism_98 : decode cX10_schism 98 = .ok (.ireturn, 1) := by decide +kernel
theorem dX10_twice_0 : decode cX10_twice 0 = .ok (.aload_n 0, 1) := by decide +kernel
theorem dX10_twice_1 : decode cX10_twice 1 = .ok (.iload_n 1, 1) := by decide +kernel
theorem dX10_twice_2 : decode cX10_twice 2 = .ok (.invokevirtual 94, 3) := by decide +kernel
theorem dX10_twice_5 : decode cX10_twice 5 = .ok (.astore 5, 2) := by decide +kernel
theorem dX10_twice_7 : decode cX10_twice 7 = .ok (.aload 5, 2) := by decide +kernel
theorem dX10_twice_9 : decode cX10_twice 9 = .ok (.ifnull 11, 3) := by decide +kernel
theorem dX10_twice_12 : decode cX10_twice 12 = .ok (.aload_n 0, 1) := by decide +kernel
theorem dX10_twice_13 : decode cX10_twice 13 = .ok (.iload_n 2, 1) := by decide +kernel
theorem dX10_twice_14 : decode cX10_twice 14 = .ok (.invokevirtual 137, 3) := by decide +kernel
theorem dX10_twice_17 : decode cX10_twice 17 = .ok (.ifCond .ne 6, 3) := by decide +kernel
theorem dX10_twice_20 : decode cX10_twice 20 = .ok (.bipush (-101), 2) := by decide +kernel
theorem dX10_twice_22 : decode cX10_twice 22 = .ok (.ireturn, 1) := by decide +kernel
theorem dX10_twice_23 : decode cX10_twice 23 = .ok (.iload_n 3, 1) := by decide +kernel
theorem dX10_twice_24 : decode cX10_twice 24 = .ok (.iconst 1, 1) := by decide +kernel
theorem dX10_twice_25 : decode cX10_twice 25 = .ok (.bipush 60, 2) := by decide +kernel
theorem dX10_twice_27 : decode cX10_twice 27 = .ok (.invokestatic 102, 3) := by decide +kernel
theorem dX10_twice_30 : decode cX10_twice 30 = .ok (.ifCond .eq 15, 3) := by decide +kernel
theorem dX10_twice_33 : decode cX10_twice 33 = .ok (.iload 4, 2) := by decide +kernel
theorem dX10_twice_35 : decode cX10_twice 35 = .ok (.iconst 0, 1) := by decide +kernel
theorem dX10_twice_36 : decode cX10_twice 36 = .ok (.sipush 495, 3) := by decide +kernel
theorem dX10_twice_39 : decode cX10_twice 39 = .ok (.invokestatic 102, 3) := by decide +kernel
theorem dX10_twice_42 : decode cX10_twice 42 = .ok (.ifCond .ne 6, 3) := by decide +kernel
theorem dX10_twice_45 : decode cX10_twice 45 = .ok (.bipush (-102), 2) := by decide +kernel
theorem dX10_twice_47 : decode cX10_twice 47 = .ok (.ireturn, 1) := by decide +kernel
theorem dX10_twice_48 : decode cX10_twice 48 = .ok (.aload_n 0, 1) := by decide +kernel
theorem dX10_twice_49 : decode cX10_twice 49 = .ok (.iconst (-1), 1) := by decide +kernel
theorem dX10_twice_50 : decode cX10_twice 50 = .ok (.aload 5, 2) := by decide +kernel
theorem dX10_twice_52 : decode cX10_twice 52 = .ok (.iload_n 2, 1) := by decide +kernel
theorem dX10_twice_53 : decode cX10_twice 53 = .ok (.iload_n 3, 1) := by decide +kernel
theorem dX10_twice_54 : decode cX10_twice 54 = .ok (.invokevirtual 228, 3) := by decide +kernel
theorem dX10_twice_57 : decode cX10_twice 57 = .ok (.iload 4, 2) := by decide +kernel
theorem dX10_twice_59 : decode cX10_twice 59 = .ok (.if_icmp .ne 9, 3) := by decide +kernel
theorem dX10_twice_62 : decode cX10_twice 62 = .ok (.sipush 1024, 3) := by decide +kernel
theorem dX10_twice_65 : decode cX10_twice 65 = .ok (.goto 4, 3) := by decide +kernel
theorem dX10_twice_68 : decode cX10_twice 68 = .ok (.iconst 0, 1) := by decide +kernel
theorem dX10_twice_69 : decode cX10_twice 69 = .ok (.istore 6, 2) := by decide +kernel
theorem dX10_twice_71 : decode cX10_twice 71 = .ok (.iconst 0, 1) := by decide +kernel
theorem dX10_twice_72 : decode cX10_twice 72 = .ok (.istore 7, 2) := by decide +kernel
theorem dX10_twice_74 : decode cX10_twice 74 = .ok (.iload 7, 2) := by decide +kernel
theorem dX10_twice_76 : decode cX10_twice 76 = .ok (.aload_n 0, 1) := by decide +kernel
theorem dX10_twice_77 : decode cX10_twice 77 = .ok (.getfield 12, 3) := by decide +kernel
theorem dX10_twice_80 : decode cX10_twice 80 = .ok (.invokevirtual 81, 3) := by decide +kernel
theorem dX10_twice_83 : decode cX10_twice 83 = .ok (.if_icmp .ge 33, 3) := by decide +kernel
theorem dX10_twice_86 : decode cX10_twice 86 = .ok (.aload_n 0, 1) := by decide +kernel
theorem dX10_twice_87 : decode cX10_twice 87 = .ok (.iload 7, 2) := by decide +kernel
theorem dX10_twice_89 : decode cX10_twice 89 = .ok (.aload 5, 2) := by decide +kernel
theorem dX10_twice_91 : decode cX10_twice 91 = .ok (.iload_n 2, 1) := by decide +kernel
theorem dX10_twice_92 : decode cX10_twice 92 = .ok (.iload_n 3, 1) := by decide +kernel
theorem dX10_twice_93 : decode cX10_twice 93 = .ok (.invokevirtual 228, 3) := by decide +kernel
theorem dX10_twice_96 : decode cX10_twice 96 = .ok (.iload 4, 2) := by decide +kernel
theorem dX10_twice_98 : decode cX10_twice 98 = .ok (.if_icmp .ne 12, 3) := by decide +kernel
theorem dX10_twice_101 : decode cX10_twice 101 = .ok (.iload 6, 2) := by decide +kernel
theorem dX10_twice_103 : decode cX10_twice 103 = .ok (.iconst 1, 1) := by decide +kernel
theorem dX10_twice_104 : decode cX10_twice 104 = .ok (.iload 7, 2) := by decide +kernel
theorem dX10_twice_106 : decode cX10_twice 106 = .ok (.ishl, 1) := by decide +kernel
theorem dX10_twice_107 : decode cX10_twice 107 = .ok (.ior, 1) := by decide +kernel
theorem dX10_twice_108 : decode cX10_twice 108 = .ok (.istore 6, 2) := by decide +kernel
theorem dX10_twice_110 : decode cX10_twice 110 = .ok (.iinc 7 1, 3) := by decide +kernel
theorem dX10_twice_113 : decode cX10_twice 113 = .ok (.goto (-39), 3) := by decide +kernel
theorem dX10_twice_116 : decode cX10_twice 116 = .ok (.iload 6, 2) := by decide +kernel
theorem dX10_twice_118 : decode cX10_twice 118 = .ok (.ireturn, 1) := by decide +kernel
theorem dX10_image_0 : decode cX10_image 0 = .ok (.aload_n 0, 1) := by decide +kernel
theorem dX10_image_1 : decode cX10_image 1 = .ok (.aload_n 0, 1) := by decide +kernel
theorem dX10_image_2 : decode cX10_image 2 = .ok (.getfield 12, 3) := by decide +kernel
theorem dX10_image_5 : decode cX10_image 5 = .ok (.invokevirtual 81, 3) := by decide +kernel
theorem dX10_image_8 : decode cX10_image 8 = .ok (.putfield 38, 3) := by decide +kernel
theorem dX10_image_11 : decode cX10_image 11 = .ok (.aload_n 0, 1) := by decide +kernel
theorem dX10_image_12 : decode cX10_image 12 = .ok (.getfield 35, 3) := by decide +kernel
theorem dX10_image_15 : decode cX10_image 15 = .ok (.aload_n 0, 1) := by decide +kernel
theorem dX10_image_16 : decode cX10_image 16 = .ok (.getfield 31, 3) := by decide +kernel
theorem dX10_image_19 : decode cX10_image 19 = .ok (.aload_n 0, 1) := by decide +kernel
theorem dX10_image_20 : decode cX10_image 20 = .ok (.getfield 38, 3) := by decide +kernel
theorem dX10_image_23 : decode cX10_image 23 = .ok (.invokevirtual 232, 3) := by decide +kernel
theorem dX10_image_26 : decode cX10_image 26 = .ok (.aload_n 0, 1) := by decide +kernel
theorem dX10_image_27 : decode cX10_image 27 = .ok (.getfield 38, 3) := by decide +kernel
theorem dX10_image_30 : decode cX10_image 30 = .ok (.ireturn, 1) := by decide +kernel
theorem dX10_restore_0 : decode cX10_restore 0 = .ok (.aload_n 0, 1) := by decide +kernel
theorem dX10_restore_1 : decode cX10_restore 1 = .ok (.getfield 38, 3) := by decide +kernel
theorem dX10_restore_4 : decode cX10_restore 4 = .ok (.ifCond .ge 6, 3) := by decide +kernel
theorem dX10_restore_7 : decode cX10_restore 7 = .ok (.bipush (-103), 2) := by decide +kernel
theorem dX10_restore_9 : decode cX10_restore 9 = .ok (.ireturn, 1) := by decide +kernel
theorem dX10_restore_10 : decode cX10_restore 10 = .ok (.aload_n 0, 1) := by decide +kernel
theorem dX10_restore_11 : decode cX10_restore 11 = .ok (.getfield 31, 3) := by decide +kernel
theorem dX10_restore_14 : decode cX10_restore 14 = .ok (.aload_n 0, 1) := by decide +kernel
theorem dX10_restore_15 : decode cX10_restore 15 = .ok (.getfield 35, 3) := by decide +kernel
theorem dX10_restore_18 : decode cX10_restore 18 = .ok (.aload_n 0, 1) := by decide +kernel
theorem dX10_restore_19 : decode cX10_restore 19 = .ok (.getfield 38, 3) := by decide +kernel
theorem dX10_restore_22 : decode cX10_restore 22 = .ok (.invokevirtual 232, 3) := by decide +kernel
theorem dX10_restore_25 : decode cX10_restore 25 = .ok (.aload_n 0, 1) := by decide +kernel
theorem dX10_restore_26 : decode cX10_restore 26 = .ok (.getfield 12, 3) := by decide +kernel
theorem dX10_restore_29 : decode cX10_restore 29 = .ok (.invokevirtual 81, 3) := by decide +kernel
theorem dX10_restore_32 : decode cX10_restore 32 = .ok (.ireturn, 1) := by decide +kernel
theorem dX10_count_0 : decode cX10_count 0 = .ok (.iload_n 1, 1) := by decide +kernel
theorem dX10_count_1 : decode cX10_count 1 = .ok (.iconst 0, 1) := by decide +kernel
theorem dX10_count_2 : decode cX10_count 2 = .ok (.bipush 6, 2) := by decide +kernel
theorem dX10_count_4 : decode cX10_count 4 = .ok (.invokestatic 102, 3) := by decide +kernel
theorem dX10_count_7 : decode cX10_count 7 = .ok (.ifCond .eq 11, 3) := by decide +kernel
theorem dX10_count_10 : decode cX10_count 10 = .ok (.aload_n 0, 1) := by decide +kernel
theorem dX10_count_11 : decode cX10_count 11 = .ok (.iload_n 1, 1) := by decide +kernel
theorem dX10_count_12 : decode cX10_count 12 = .ok (.invokevirtual 236, 3) := by decide +kernel
theorem dX10_count_15 : decode cX10_count 15 = .ok (.goto 5, 3) := by decide +kernel
theorem dX10_count_18 : decode cX10_count 18 = .ok (.bipush (-102), 2) := by decide +kernel
theorem dX10_count_20 : decode cX10_count 20 = .ok (.ireturn, 1) := by decide +kernel
theorem dX10_digest_0 : decode cX10_digest 0 = .ok (.ldc2_w 239, 3) := by decide +kernel
theorem dX10_digest_3 : decode cX10_digest 3 = .ok (.lstore_n 1, 1) := by decide +kernel
theorem dX10_digest_4 : decode cX10_digest 4 = .ok (.iconst 0, 1) := by decide +kernel
theorem dX10_digest_5 : decode cX10_digest 5 = .ok (.istore_n 3, 1) := by decide +kernel
theorem dX10_digest_6 : decode cX10_digest 6 = .ok (.iload_n 3, 1) := by decide +kernel
theorem dX10_digest_7 : decode cX10_digest 7 = .ok (.aload_n 0, 1) := by decide +kernel
theorem dX10_digest_8 : decode cX10_digest 8 = .ok (.getfield 12, 3) := by decide +kernel
theorem dX10_digest_11 : decode cX10_digest 11 = .ok (.invokevirtual 81, 3) := by decide +kernel
theorem dX10_digest_14 : decode cX10_digest 14 = .ok (.if_icmp .ge 40, 3) := by decide +kernel
theorem dX10_digest_17 : decode cX10_digest 17 = .ok (.iconst 0, 1) := by decide +kernel
theorem dX10_digest_18 : decode cX10_digest 18 = .ok (.istore 4, 2) := by decide +kernel
theorem dX10_digest_20 : decode cX10_digest 20 = .ok (.iload 4, 2) := by decide +kernel
theorem dX10_digest_22 : decode cX10_digest 22 = .ok (.bipush 6, 2) := by decide +kernel
theorem dX10_digest_24 : decode cX10_digest 24 = .ok (.if_icmp .gt 24, 3) := by decide +kernel
theorem dX10_digest_27 : decode cX10_digest 27 = .ok (.ldc2_w 241, 3) := by decide +kernel
theorem dX10_digest_30 : decode cX10_digest 30 = .ok (.lload_n 1, 1) := by decide +kernel
theorem dX10_digest_31 : decode cX10_digest 31 = .ok (.lmul, 1) := by decide +kernel
theorem dX10_digest_32 : decode cX10_digest 32 = .ok (.aload_n 0, 1) := by decide +kernel
theorem dX10_digest_33 : decode cX10_digest 33 = .ok (.iload_n 3, 1) := by decide +kernel
theorem dX10_digest_34 : decode cX10_digest 34 = .ok (.iload 4, 2) := by decide +kernel
theorem dX10_digest_36 : decode cX10_digest 36 = .ok (.invokevirtual 133, 3) := by decide +kernel
theorem dX10_digest_39 : decode cX10_digest 39 = .ok (.i2l, 1) := by decide +kernel
theorem dX10_digest_40 : decode cX10_digest 40 = .ok (.ladd, 1) := by decide +kernel
theorem dX10_digest_41 : decode cX10_digest 41 = .ok (.lstore_n 1, 1) := by decide +kernel
theorem dX10_digest_42 : decode cX10_digest 42 = .ok (.iinc 4 1, 3) := by decide +kernel
theorem dX10_digest_45 : decode cX10_digest 45 = .ok (.goto (-25), 3) := by decide +kernel
theorem dX10_digest_48 : decode cX10_digest 48 = .ok (.iinc 3 1, 3) := by decide +kernel
theorem dX10_digest_51 : decode cX10_digest 51 = .ok (.goto (-45), 3) := by decide +kernel
theorem dX10_digest_54 : decode cX10_digest 54 = .ok (.iconst 0, 1) := by decide +kernel
theorem dX10_digest_55 : decode cX10_digest 55 = .ok (.istore_n 3, 1) := by decide +kernel
theorem dX10_digest_56 : decode cX10_digest 56 = .ok (.iload_n 3, 1) := by decide +kernel
theorem dX10_digest_57 : decode cX10_digest 57 = .ok (.iconst 5, 1) := by decide +kernel
theorem dX10_digest_58 : decode cX10_digest 58 = .ok (.if_icmp .ge 26, 3) := by decide +kernel
theorem dX10_digest_61 : decode cX10_digest 61 = .ok (.ldc2_w 241, 3) := by decide +kernel
theorem dX10_digest_64 : decode cX10_digest 64 = .ok (.lload_n 1, 1) := by decide +kernel
theorem dX10_digest_65 : decode cX10_digest 65 = .ok (.lmul, 1) := by decide +kernel
theorem dX10_digest_66 : decode cX10_digest 66 = .ok (.aload_n 0, 1) := by decide +kernel
theorem dX10_digest_67 : decode cX10_digest 67 = .ok (.getfield 31, 3) := by decide +kernel
theorem dX10_digest_70 : decode cX10_digest 70 = .ok (.getfield 147, 3) := by decide +kernel
theorem dX10_digest_73 : decode cX10_digest 73 = .ok (.iload_n 3, 1) := by decide +kernel
theorem dX10_digest_74 : decode cX10_digest 74 = .ok (.iaload, 1) := by decide +kernel
theorem dX10_digest_75 : decode cX10_digest 75 = .ok (.i2l, 1) := by decide +kernel
theorem dX10_digest_76 : decode cX10_digest 76 = .ok (.ladd, 1) := by decide +kernel
theorem dX10_digest_77 : decode cX10_digest 77 = .ok (.lstore_n 1, 1) := by decide +kernel
theorem dX10_digest_78 : decode cX10_digest 78 = .ok (.iinc 3 1, 3) := by decide +kernel
theorem dX10_digest_81 : decode cX10_digest 81 = .ok (.goto (-25), 3) := by decide +kernel
theorem dX10_digest_84 : decode cX10_digest 84 = .ok (.iconst 0, 1) := by decide +kernel
theorem dX10_digest_85 : decode cX10_digest 85 = .ok (.istore_n 3, 1) := by decide +kernel
theorem dX10_digest_86 : decode cX10_digest 86 = .ok (.iload_n 3, 1) := by decide +kernel
theorem dX10_digest_87 : decode cX10_digest 87 = .ok (.aload_n 0, 1) := by decide +kernel
theorem dX10_digest_88 : decode cX10_digest 88 = .ok (.getfield 16, 3) := by decide +kernel
theorem dX10_digest_91 : decode cX10_digest 91 = .ok (.invokevirtual 81, 3) := by decide +kernel
theorem dX10_digest_94 : decode cX10_digest 94 = .ok (.if_icmp .ge 26, 3) := by decide +kernel
theorem dX10_digest_97 : decode cX10_digest 97 = .ok (.aload_n 0, 1) := by decide +kernel
theorem dX10_digest_98 : decode cX10_digest 98 = .ok (.lload_n 1, 1) := by decide +kernel
theorem dX10_digest_99 : decode cX10_digest 99 = .ok (.aload_n 0, 1) := by decide +kernel
theorem dX10_digest_100 : decode cX10_digest 100 = .ok (.getfield 16, 3) := by decide +kernel
theorem dX10_digest_103 : decode cX10_digest 103 = .ok (.iload_n 3, 1) := by decide +kernel
theorem dX10_digest_104 : decode cX10_digest 104 = .ok (.invokevirtual 124, 3) := by decide +kernel
theorem dX10_digest_107 : decode cX10_digest 107 = .ok (.checkcast 85, 3) := by decide +kernel
theorem dX10_digest_110 : decode cX10_digest 110 = .ok (.invokevirtual 243, 3) := by decide +kernel
theorem dX10_digest_113 : decode cX10_digest 113 = .ok (.lstore_n 1, 1) := by decide +kernel
theorem dX10_digest_114 : decode cX10_digest 114 = .ok (.iinc 3 1, 3) := by decide +kernel
theorem dX10_digest_117 : decode cX10_digest 117 = .ok (.goto (-31), 3) := by decide +kernel
theorem dX10_digest_120 : decode cX10_digest 120 = .ok (.iconst 0, 1) := by decide +kernel
theorem dX10_digest_121 : decode cX10_digest 121 = .ok (.istore_n 3, 1) := by decide +kernel
theorem dX10_digest_122 : decode cX10_digest 122 = .ok (.iload_n 3, 1) := by decide +kernel
theorem dX10_digest_123 : decode cX10_digest 123 = .ok (.aload_n 0, 1) := by decide +kernel
theorem dX10_digest_124 : decode cX10_digest 124 = .ok (.getfield 22, 3) := by decide +kernel
theorem dX10_digest_127 : decode cX10_digest 127 = .ok (.getfield 64, 3) := by decide +kernel
theorem dX10_digest_130 : decode cX10_digest 130 = .ok (.if_icmp .ge 26, 3) := by decide +kernel
theorem dX10_digest_133 : decode cX10_digest 133 = .ok (.ldc2_w 241, 3) := by decide +kernel
theorem dX10_digest_136 : decode cX10_digest 136 = .ok (.lload_n 1, 1) := by decide +kernel
theorem dX10_digest_137 : decode cX10_digest 137 = .ok (.lmul, 1) := by decide +kernel
theorem dX10_digest_138 : decode cX10_digest 138 = .ok (.aload_n 0, 1) := by decide +kernel
theorem dX10_digest_139 : decode cX10_digest 139 = .ok (.getfield 22, 3) := by decide +kernel
theorem dX10_digest_142 : decode cX10_digest 142 = .ok (.getfield 247, 3) := by decide +kernel
theorem dX10_digest_145 : decode cX10_digest 145 = .ok (.iload_n 3, 1) := by decide +kernel
theorem dX10_digest_146 : decode cX10_digest 146 = .ok (.iaload, 1) := by decide +kernel
theorem dX10_digest_147 : decode cX10_digest 147 = .ok (.i2l, 1) := by decide +kernel
theorem dX10_digest_148 : decode cX10_digest 148 = .ok (.ladd, 1) := by decide +kernel
theorem dX10_digest_149 : decode cX10_digest 149 = .ok (.lstore_n 1, 1) := by decide +kernel
theorem dX10_digest_150 : decode cX10_digest 150 = .ok (.iinc 3 1, 3) := by decide +kernel
theorem dX10_digest_153 : decode cX10_digest 153 = .ok (.goto (-31), 3) := by decide +kernel
theorem dX10_digest_156 : decode cX10_digest 156 = .ok (.iconst 0, 1) := by decide +kernel
theorem dX10_digest_157 : decode cX10_digest 157 = .ok (.istore_n 3, 1) := by decide +kernel
theorem dX10_digest_158 : decode cX10_digest 158 = .ok (.iload_n 3, 1) := by decide +kernel
theorem dX10_digest_159 : decode cX10_digest 159 = .ok (.bipush 6, 2) := by decide +kernel
theorem dX10_digest_161 : decode cX10_digest 161 = .ok (.if_icmp .gt 22, 3) := by decide +kernel
theorem dX10_digest_164 : decode cX10_digest 164 = .ok (.ldc2_w 241, 3) := by decide +kernel
theorem dX10_digest_167 : decode cX10_digest 167 = .ok (.lload_n 1, 1) := by decide +kernel
theorem dX10_digest_168 : decode cX10_digest 168 = .ok (.lmul, 1) := by decide +kernel
theorem dX10_digest_169 : decode cX10_digest 169 = .ok (.aload_n 0, 1) := by decide +kernel
theorem dX10_digest_170 : decode cX10_digest 170 = .ok (.iload_n 3, 1) := by decide +kernel
theorem dX10_digest_171 : decode cX10_digest 171 = .ok (.invokevirtual 236, 3) := by decide +kernel
theorem dX10_digest_174 : decode cX10_digest 174 = .ok (.i2l, 1) := by decide +kernel
theorem dX10_digest_175 : decode cX10_digest 175 = .ok (.ladd, 1) := by decide +kernel
theorem dX10_digest_176 : decode cX10_digest 176 = .ok (.lstore_n 1, 1) := by decide +kernel
theorem dX10_digest_177 : decode cX10_digest 177 = .ok (.iinc 3 1, 3) := by decide +kernel
theorem dX10_digest_180 : decode cX10_digest 180 = .ok (.goto (-22), 3) := by decide +kernel
theorem dX10_digest_183 : decode cX10_digest 183 = .ok (.lload_n 1, 1) := by decide +kernel
theorem dX10_digest_184 : decode cX10_digest 184 = .ok (.lreturn, 1) := by decide +kernel
theorem dX10_isWithin_0 : decode cX10_isWithin 0 = .ok (.iload_n 0, 1) := by decide +kernel
theorem dX10_isWithin_1 : decode cX10_isWithin 1 = .ok (.iload_n 1, 1) := by decide +kernel
theorem dX10_isWithin_2 : decode cX10_isWithin 2 = .ok (.if_icmp .lt 12, 3) := by decide +kernel
theorem dX10_isWithin_5 : decode cX10_isWithin 5 = .ok (.iload_n 0, 1) := by decide +kernel
theorem dX10_isWithin_6 : decode cX10_isWithin 6 = .ok (.iload_n 2, 1) := by decide +kernel
theorem dX10_isWithin_7 : decode cX10_isWithin 7 = .ok (.if_icmp .gt 7, 3) := by decide +kernel
theorem dX10_isWithin_10 : decode cX10_isWithin 10 = .ok (.iconst 1, 1) := by decide +kernel
theorem dX10_isWithin_11 : decode cX10_isWithin 11 = .ok (.goto 4, 3) := by decide +kernel
theorem dX10_isWithin_14 : decode cX10_isWithin 14 = .ok (.iconst 0, 1) := by decide +kernel
theorem dX10_isWithin_15 : decode cX10_isWithin 15 = .ok (.ireturn, 1) := by decide +kernel
theorem dX10_asNumber_0 : decode cX10_asNumber 0 = .ok (.iload_n 0, 1) := by decide +kernel
theorem dX10_asNumber_1 : decode cX10_asNumber 1 = .ok (.ifCond .eq 7, 3) := by decide +kernel
theorem dX10_asNumber_4 : decode cX10_asNumber 4 = .ok (.iconst 1, 1) := by decide +kernel
theorem dX10_asNumber_5 : decode cX10_asNumber 5 = .ok (.goto 4, 3) := by decide +kernel
theorem dX10_asNumber_8 : decode cX10_asNumber 8 = .ok (.iconst 0, 1) := by decide +kernel
theorem dX10_asNumber_9 : decode cX10_asNumber 9 = .ok (.ireturn, 1) := by decide +kernel
theorem dX10_leastNumber_0 : decode cX10_leastNumber 0 = .ok (.iload_n 0, 1) := by decide +kernel
theorem dX10_leastNumber_1 : decode cX10_leastNumber 1 = .ok (.tableswitch 39 1 4 #[31, 39, 35, 31], 31) := by decide +kernel
theorem dX10_leastNumber_32 : decode cX10_leastNumber 32 = .ok (.iconst 2, 1) := by decide +kernel
theorem dX10_leastNumber_33 : decode cX10_leastNumber 33 = .ok (.goto 8, 3) := by decide +kernel
theorem dX10_leastNumber_36 : decode cX10_leastNumber 36 = .ok (.iconst 1, 1) := by decide +kernel
theorem dX10_leastNumber_37 : decode cX10_leastNumber 37 = .ok (.goto 4, 3) := by decide +kernel
theorem dX10_leastNumber_40 : decode cX10_leastNumber 40 = .ok (.iconst 0, 1) := by decide +kernel
theorem dX10_leastNumber_41 : decode cX10_leastNumber 41 = .ok (.ireturn, 1) := by decide +kernel
theorem dX10_mostNumber_0 : decode cX10_mostNumber 0 = .ok (.iload_n 0, 1) := by decide +kernel
theorem dX10_mostNumber_1 : decode cX10_mostNumber 1 = .ok (.ifCond .eq 8, 3) := by decide +kernel
theorem dX10_mostNumber_4 : decode cX10_mostNumber 4 = .ok (.iload_n 0, 1) := by decide +kernel
theorem dX10_mostNumber_5 : decode cX10_mostNumber 5 = .ok (.iconst 2, 1) := by decide +kernel
theorem dX10_mostNumber_6 : decode cX10_mostNumber 6 = .ok (.if_icmp .ne 7, 3) := by decide +kernel
theorem dX10_mostNumber_9 : decode cX10_mostNumber 9 = .ok (.iconst 0, 1) := by decide +kernel
theorem dX10_mostNumber_10 : decode cX10_mostNumber 10 = .ok (.goto 4, 3) := by decide +kernel
theorem dX10_mostNumber_13 : decode cX10_mostNumber 13 = .ok (.iconst 4, 1) := by decide +kernel
theorem dX10_mostNumber_14 : decode cX10_mostNumber 14 = .ok (.ireturn, 1) := by decide +kernel
theorem dX10_newcomer_0 : decode cX10_newcomer 0 = .ok (.iload_n 0, 1) := by decide +kernel
theorem dX10_newcomer_1 : decode cX10_newcomer 1 = .ok (.tableswitch 90 1 4 #[31, 46, 60, 75], 31) := by decide +kernel
theorem dX10_newcomer_32 : decode cX10_newcomer 32 = .ok (.new 250, 3) := by decide +kernel
theorem dX10_newcomer_35 : decode cX10_newcomer 35 = .ok (.dup, 1) := by decide +kernel
theorem dX10_newcomer_36 : decode cX10_newcomer 36 = .ok (.iload_n 1, 1) := by decide +kernel
theorem dX10_newcomer_37 : decode cX10_newcomer 37 = .ok (.iload_n 2, 1) := by decide +kernel
theorem dX10_newcomer_38 : decode cX10_newcomer 38 = .ok (.iload_n 3, 1) := by decide +kernel
theorem dX10_newcomer_39 : decode cX10_newcomer 39 = .ok (.iload 4, 2) := by decide +kernel
theorem dX10_newcomer_41 : decode cX10_newcomer 41 = .ok (.invokespecial 252, 3) := by decide +kernel
theorem dX10_newcomer_44 : decode cX10_newcomer 44 = .ok (.goto 59, 3) := by decide +kernel
theorem dX10_newcomer_47 : decode cX10_newcomer 47 = .ok (.new 255, 3) := by decide +kernel
theorem dX10_newcomer_50 : decode cX10_newcomer 50 = .ok (.dup, 1) := by decide +kernel
theorem dX10_newcomer_51 : decode cX10_newcomer 51 = .ok (.iload_n 2, 1) := by decide +kernel
theorem dX10_newcomer_52 : decode cX10_newcomer 52 = .ok (.iload_n 3, 1) := by decide +kernel
theorem dX10_newcomer_53 : decode cX10_newcomer 53 = .ok (.iload 4, 2) := by decide +kernel
theorem dX10_newcomer_55 : decode cX10_newcomer 55 = .ok (.invokespecial 257, 3) := by decide +kernel
theorem dX10_newcomer_58 : decode cX10_newcomer 58 = .ok (.goto 45, 3) := by decide +kernel
theorem dX10_newcomer_61 : decode cX10_newcomer 61 = .ok (.new 260, 3) := by decide +kernel
theorem dX10_newcomer_64 : decode cX10_newcomer 64 = .ok (.dup, 1) := by decide +kernel
theorem dX10_newcomer_65 : decode cX10_newcomer 65 = .ok (.iload_n 1, 1) := by decide +kernel
theorem dX10_newcomer_66 : decode cX10_newcomer 66 = .ok (.iload_n 2, 1) := by decide +kernel
theorem dX10_newcomer_67 : decode cX10_newcomer 67 = .ok (.iload_n 3, 1) := by decide +kernel
theorem dX10_newcomer_68 : decode cX10_newcomer 68 = .ok (.iload 4, 2) := by decide +kernel
theorem dX10_newcomer_70 : decode cX10_newcomer 70 = .ok (.invokespecial 262, 3) := by decide +kernel
theorem dX10_newcomer_73 : decode cX10_newcomer 73 = .ok (.goto 30, 3) := by decide +kernel
theorem dX10_newcomer_76 : decode cX10_newcomer 76 = .ok (.new 263, 3) := by decide +kernel
theorem dX10_newcomer_79 : decode cX10_newcomer 79 = .ok (.dup, 1) := by decide +kernel
theorem dX10_newcomer_80 : decode cX10_newcomer 80 = .ok (.iload_n 1, 1) := by decide +kernel
theorem dX10_newcomer_81 : decode cX10_newcomer 81 = .ok (.iload_n 2, 1) := by decide +kernel
theorem dX10_newcomer_82 : decode cX10_newcomer 82 = .ok (.iload_n 3, 1) := by decide +kernel
theorem dX10_newcomer_83 : decode cX10_newcomer 83 = .ok (.iload 4, 2) := by decide +kernel
theorem dX10_newcomer_85 : decode cX10_newcomer 85 = .ok (.invokespecial 265, 3) := by decide +kernel
theorem dX10_newcomer_88 : decode cX10_newcomer 88 = .ok (.goto 15, 3) := by decide +kernel
theorem dX10_newcomer_91 : decode cX10_newcomer 91 = .ok (.new 128, 3) := by decide +kernel
theorem dX10_newcomer_94 : decode cX10_newcomer 94 = .ok (.dup, 1) := by decide +kernel
theorem dX10_newcomer_95 : decode cX10_newcomer 95 = .ok (.iconst 0, 1) := by decide +kernel
theorem dX10_newcomer_96 : decode cX10_newcomer 96 = .ok (.iload_n 2, 1) := by decide +kernel
theorem dX10_newcomer_97 : decode cX10_newcomer 97 = .ok (.iload_n 3, 1) := by decide +kernel
theorem dX10_newcomer_98 : decode cX10_newcomer 98 = .ok (.iload 4, 2) := by decide +kernel
theorem dX10_newcomer_100 : decode cX10_newcomer 100 = .ok (.invokespecial 266, 3) := by decide +kernel
theorem dX10_newcomer_103 : decode cX10_newcomer 103 = .ok (.areturn, 1) := by decide +kernel
theorem dX10_isHermit_0 : decode cX10_isHermit 0 = .ok (.iload_n 1, 1) := by decide +kernel
theorem dX10_isHermit_1 : decode cX10_isHermit 1 = .ok (.ifCond .lt 18, 3) := by decide +kernel
theorem dX10_isHermit_4 : decode cX10_isHermit 4 = .ok (.iload_n 1, 1) := by decide +kernel
theorem dX10_isHermit_5 : decode cX10_isHermit 5 = .ok (.aload_n 0, 1) := by decide +kernel
theorem dX10_isHermit_6 : decode cX10_isHermit 6 = .ok (.getfield 12, 3) := by decide +kernel
theorem dX10_isHermit_9 : decode cX10_isHermit 9 = .ok (.invokevirtual 81, 3) := by decide +kernel
theorem dX10_isHermit_12 : decode cX10_isHermit 12 = .ok (.if_icmp .ge 7, 3) := by decide +kernel
theorem dX10_isHermit_15 : decode cX10_isHermit 15 = .ok (.iconst 1, 1) := by decide +kernel
theorem dX10_isHermit_16 : decode cX10_isHermit 16 = .ok (.goto 4, 3) := by decide +kernel
theorem dX10_isHermit_19 : decode cX10_isHermit 19 = .ok (.iconst 0, 1) := by decide +kernel
theorem dX10_isHermit_20 : decode cX10_isHermit 20 = .ok (.ireturn, 1) := by decide +kernel
theorem dX10_isSeat_0 : decode cX10_isSeat 0 = .ok (.iload_n 1, 1) := by decide +kernel
theorem dX10_isSeat_1 : decode cX10_isSeat 1 = .ok (.ifCond .lt 18, 3) := by decide +kernel
theorem dX10_isSeat_4 : decode cX10_isSeat 4 = .ok (.iload_n 1, 1) := by decide +kernel
theorem dX10_isSeat_5 : decode cX10_isSeat 5 = .ok (.aload_n 0, 1) := by decide +kernel
theorem dX10_isSeat_6 : decode cX10_isSeat 6 = .ok (.getfield 12, 3) := by decide +kernel
theorem dX10_isSeat_9 : decode cX10_isSeat 9 = .ok (.invokevirtual 81, 3) := by decide +kernel
theorem dX10_isSeat_12 : decode cX10_isSeat 12 = .ok (.if_icmp .ge 7, 3) := by decide +kernel
theorem dX10_isSeat_15 : decode cX10_isSeat 15 = .ok (.iconst 1, 1) := by decide +kernel
theorem dX10_isSeat_16 : decode cX10_isSeat 16 = .ok (.goto 4, 3) := by decide +kernel
theorem dX10_isSeat_19 : decode cX10_isSeat 19 = .ok (.iconst 0, 1) := by decide +kernel
theorem dX10_isSeat_20 : decode cX10_isSeat 20 = .ok (.ireturn, 1) := by decide +kernel
theorem dX10_areFasts_0 : decode cX10_areFasts 0 = .ok (.iload_n 1, 1) := by decide +kernel
theorem dX10_areFasts_1 : decode cX10_areFasts 1 = .ok (.ifCond .lt 20, 3) := by decide +kernel
theorem dX10_areFasts_4 : decode cX10_areFasts 4 = .ok (.iload_n 1, 1) := by decide +kernel
theorem dX10_areFasts_5 : decode cX10_areFasts 5 = .ok (.iconst 1, 1) := by decide +kernel
theorem dX10_areFasts_6 : decode cX10_areFasts 6 = .ok (.aload_n 0, 1) := by decide +kernel
theorem dX10_areFasts_7 : decode cX10_areFasts 7 = .ok (.getfield 12, 3) := by decide +kernel
theorem dX10_areFasts_10 : decode cX10_areFasts 10 = .ok (.invokevirtual 81, 3) := by decide +kernel
theorem dX10_areFasts_13 : decode cX10_areFasts 13 = .ok (.ishl, 1) := by decide +kernel
theorem dX10_areFasts_14 : decode cX10_areFasts 14 = .ok (.if_icmp .ge 7, 3) := by decide +kernel
theorem dX10_areFasts_17 : decode cX10_areFasts 17 = .ok (.iconst 1, 1) := by decide +kernel
theorem dX10_areFasts_18 : decode cX10_areFasts 18 = .ok (.goto 4, 3) := by decide +kernel
theorem dX10_areFasts_21 : decode cX10_areFasts 21 = .ok (.iconst 0, 1) := by decide +kernel
theorem dX10_areFasts_22 : decode cX10_areFasts 22 = .ok (.ireturn, 1) := by decide +kernel
theorem dX10_vowNumbered_0 : decode cX10_vowNumbered 0 = .ok (.iload_n 1, 1) := by decide +kernel
theorem dX10_vowNumbered_1 : decode cX10_vowNumbered 1 = .ok (.ifCond .lt 28, 3) := by decide +kernel
theorem dX10_vowNumbered_4 : decode cX10_vowNumbered 4 = .ok (.iload_n 1, 1) := by decide +kernel
theorem dX10_vowNumbered_5 : decode cX10_vowNumbered 5 = .ok (.aload_n 0, 1) := by decide +kernel
theorem dX10_vowNumbered_6 : decode cX10_vowNumbered 6 = .ok (.getfield 16, 3) := by decide +kernel
theorem dX10_vowNumbered_9 : decode cX10_vowNumbered 9 = .ok (.invokevirtual 81, 3) := by decide +kernel
theorem dX10_vowNumbered_12 : decode cX10_vowNumbered 12 = .ok (.if_icmp .ge 17, 3) := by decide +kernel
theorem dX10_vowNumbered_15 : decode cX10_vowNumbered 15 = .ok (.aload_n 0, 1) := by decide +kernel
theorem dX10_vowNumbered_16 : decode cX10_vowNumbered 16 = .ok (.getfield 16, 3) := by decide +kernel
theorem dX10_vowNumbered_19 : decode cX10_vowNumbered 19 = .ok (.iload_n 1, 1) := by decide +kernel
theorem dX10_vowNumbered_20 : decode cX10_vowNumbered 20 = .ok (.invokevirtual 124, 3) := by decide +kernel
theorem dX10_vowNumbered_23 : decode cX10_vowNumbered 23 = .ok (.checkcast 85, 3) := by decide +kernel
theorem dX10_vowNumbered_26 : decode cX10_vowNumbered 26 = .ok (.goto 4, 3) := by decide +kernel
theorem dX10_vowNumbered_29 : decode cX10_vowNumbered 29 = .ok (.aconst_null, 1) := by decide +kernel
theorem dX10_vowNumbered_30 : decode cX10_vowNumbered 30 = .ok (.areturn, 1) := by decide +kernel
theorem dX10_toldOf_0 : decode cX10_toldOf 0 = .ok (.aload_n 0, 1) := by decide +kernel
theorem dX10_toldOf_1 : decode cX10_toldOf 1 = .ok (.getfield 12, 3) := by decide +kernel
theorem dX10_toldOf_4 : decode cX10_toldOf 4 = .ok (.iload_n 1, 1) := by decide +kernel
theorem dX10_toldOf_5 : decode cX10_toldOf 5 = .ok (.invokevirtual 124, 3) := by decide +kernel
theorem dX10_toldOf_8 : decode cX10_toldOf 8 = .ok (.checkcast 128, 3) := by decide +kernel
theorem dX10_toldOf_11 : decode cX10_toldOf 11 = .ok (.astore_n 3, 1) := by decide +kernel
theorem dX10_toldOf_12 : decode cX10_toldOf 12 = .ok (.iload_n 2, 1) := by decide +kernel
theorem dX10_toldOf_13 : decode cX10_toldOf 13 = .ok (.tableswitch 86 0 5 #[39, 46, 53, 60, 67, 74], 39) := by decide +kernel
theorem dX10_toldOf_52 : decode cX10_toldOf 52 = .ok (.aload_n 3, 1) := by decide +kernel
theorem dX10_toldOf_53 : decode cX10_toldOf 53 = .ok (.invokevirtual 267, 3) := by decide +kernel
theorem dX10_toldOf_56 : decode cX10_toldOf 56 = .ok (.goto 51, 3) := by decide +kernel
theorem dX10_toldOf_59 : decode cX10_toldOf 59 = .ok (.aload_n 3, 1) := by decide +kernel
theorem dX10_toldOf_60 : decode cX10_toldOf 60 = .ok (.getfield 270, 3) := by decide +kernel
theorem dX10_toldOf_63 : decode cX10_toldOf 63 = .ok (.goto 44, 3) := by decide +kernel
theorem dX10_toldOf_66 : decode cX10_toldOf 66 = .ok (.aload_n 3, 1) := by decide +kernel
theorem dX10_toldOf_67 : decode cX10_toldOf 67 = .ok (.getfield 273, 3) := by decide +kernel
theorem dX10_toldOf_70 : decode cX10_toldOf 70 = .ok (.goto 37, 3) := by decide +kernel
theorem dX10_toldOf_73 : decode cX10_toldOf 73 = .ok (.aload_n 3, 1) := by decide +kernel
theorem dX10_toldOf_74 : decode cX10_toldOf 74 = .ok (.getfield 276, 3) := by decide +kernel
theorem dX10_toldOf_77 : decode cX10_toldOf 77 = .ok (.goto 30, 3) := by decide +kernel
theorem dX10_toldOf_80 : decode cX10_toldOf 80 = .ok (.aload_n 3, 1) := by decide +kernel
theorem dX10_toldOf_81 : decode cX10_toldOf 81 = .ok (.getfield 279, 3) := by decide +kernel
theorem dX10_toldOf_84 : decode cX10_toldOf 84 = .ok (.goto 23, 3) := by decide +kernel
theorem dX10_toldOf_87 : decode cX10_toldOf 87 = .ok (.aload_n 0, 1) := by decide +kernel
theorem dX10_toldOf_88 : decode cX10_toldOf 88 = .ok (.getfield 31, 3) := by decide +kernel
theorem dX10_toldOf_91 : decode cX10_toldOf 91 = .ok (.getfield 116, 3) := by decide +kernel
theorem dX10_toldOf_94 : decode cX10_toldOf 94 = .ok (.iload_n 1, 1) := by decide +kernel
theorem dX10_toldOf_95 : decode cX10_toldOf 95 = .ok (.iaload, 1) := by decide +kernel
theorem dX10_toldOf_96 : decode cX10_toldOf 96 = .ok (.goto 11, 3) := by decide +kernel
theorem dX10_toldOf_99 : decode cX10_toldOf 99 = .ok (.aload_n 0, 1) := by decide +kernel
theorem dX10_toldOf_100 : decode cX10_toldOf 100 = .ok (.getfield 31, 3) := by decide +kernel
theorem dX10_toldOf_103 : decode cX10_toldOf 103 = .ok (.iload_n 1, 1) := by decide +kernel
theorem dX10_toldOf_104 : decode cX10_toldOf 104 = .ok (.invokevirtual 282, 3) := by decide +kernel
theorem dX10_toldOf_107 : decode cX10_toldOf 107 = .ok (.ireturn, 1) := by decide +kernel
theorem dX10_counted_0 : decode cX10_counted 0 = .ok (.iload_n 1, 1) := by decide +kernel
theorem dX10_counted_1 : decode cX10_counted 1 = .ok (.tableswitch 102 0 5 #[39, 49, 59, 69, 79, 92], 39) := by decide +kernel
theorem dX10_counted_40 : decode cX10_counted 40 = .ok (.aload_n 0, 1) := by decide +kernel
theorem dX10_counted_41 : decode cX10_counted 41 = .ok (.getfield 12, 3) := by decide +kernel
theorem dX10_counted_44 : decode cX10_counted 44 = .ok (.invokevirtual 81, 3) := by decide +kernel
theorem dX10_counted_47 : decode cX10_counted 47 = .ok (.goto 63, 3) := by decide +kernel
theorem dX10_counted_50 : decode cX10_counted 50 = .ok (.aload_n 0, 1) := by decide +kernel
theorem dX10_counted_51 : decode cX10_counted 51 = .ok (.getfield 16, 3) := by decide +kernel
theorem dX10_counted_54 : decode cX10_counted 54 = .ok (.invokevirtual 81, 3) := by decide +kernel
theorem dX10_counted_57 : decode cX10_counted 57 = .ok (.goto 53, 3) := by decide +kernel
theorem dX10_counted_60 : decode cX10_counted 60 = .ok (.aload_n 0, 1) := by decide +kernel
theorem dX10_counted_61 : decode cX10_counted 61 = .ok (.getfield 31, 3) := by decide +kernel
theorem dX10_counted_64 : decode cX10_counted 64 = .ok (.invokevirtual 285, 3) := by decide +kernel
theorem dX10_counted_67 : decode cX10_counted 67 = .ok (.goto 43, 3) := by decide +kernel
theorem dX10_counted_70 : decode cX10_counted 70 = .ok (.aload_n 0, 1) := by decide +kernel
theorem dX10_counted_71 : decode cX10_counted 71 = .ok (.getfield 31, 3) := by decide +kernel
theorem dX10_counted_74 : decode cX10_counted 74 = .ok (.getfield 150, 3) := by decide +kernel
theorem dX10_counted_77 : decode cX10_counted 77 = .ok (.goto 33, 3) := by decide +kernel
theorem dX10_counted_80 : decode cX10_counted 80 = .ok (.aload_n 0, 1) := by decide +kernel
theorem dX10_counted_81 : decode cX10_counted 81 = .ok (.getfield 31, 3) := by decide +kernel
theorem dX10_counted_84 : decode cX10_counted 84 = .ok (.getfield 153, 3) := by decide +kernel
theorem dX10_counted_87 : decode cX10_counted 87 = .ok (.invokestatic 156, 3) := by decide +kernel
theorem dX10_counted_90 : decode cX10_counted 90 = .ok (.goto 20, 3) := by decide +kernel
theorem dX10_counted_93 : decode cX10_counted 93 = .ok (.aload_n 0, 1) := by decide +kernel
theorem dX10_counted_94 : decode cX10_counted 94 = .ok (.getfield 31, 3) := by decide +kernel
theorem dX10_counted_97 : decode cX10_counted 97 = .ok (.invokevirtual 288, 3) := by decide +kernel
theorem dX10_counted_100 : decode cX10_counted 100 = .ok (.goto 10, 3) := by decide +kernel
theorem dX10_counted_103 : decode cX10_counted 103 = .ok (.aload_n 0, 1) := by decide +kernel
theorem dX10_counted_104 : decode cX10_counted 104 = .ok (.getfield 22, 3) := by decide +kernel
theorem dX10_counted_107 : decode cX10_counted 107 = .ok (.getfield 64, 3) := by decide +kernel
theorem dX10_counted_110 : decode cX10_counted 110 = .ok (.ireturn, 1) := by decide +kernel
theorem dX10_leftIf_0 : decode cX10_leftIf 0 = .ok (.aload_n 0, 1) := by decide +kernel
theorem dX10_leftIf_1 : decode cX10_leftIf 1 = .ok (.getfield 47, 3) := by decide +kernel
theorem dX10_leftIf_4 : decode cX10_leftIf 4 = .ok (.aload_n 0, 1) := by decide +kernel
theorem dX10_leftIf_5 : decode cX10_leftIf 5 = .ok (.getfield 31, 3) := by decide +kernel
theorem dX10_leftIf_8 : decode cX10_leftIf 8 = .ok (.invokevirtual 171, 3) := by decide +kernel
theorem dX10_leftIf_11 : decode cX10_leftIf 11 = .ok (.aload_n 0, 1) := by decide +kernel
theorem dX10_leftIf_12 : decode cX10_leftIf 12 = .ok (.getfield 47, 3) := by decide +kernel
theorem dX10_leftIf_15 : decode cX10_leftIf 15 = .ok (.iload_n 1, 1) := by decide +kernel
theorem dX10_leftIf_16 : decode cX10_leftIf 16 = .ok (.putfield 291, 3) := by decide +kernel
theorem dX10_leftIf_19 : decode cX10_leftIf 19 = .ok (.aload_n 0, 1) := by decide +kernel
theorem dX10_leftIf_20 : decode cX10_leftIf 20 = .ok (.getfield 47, 3) := by decide +kernel
theorem dX10_leftIf_23 : decode cX10_leftIf 23 = .ok (.aload_n 2, 1) := by decide +kernel
theorem dX10_leftIf_24 : decode cX10_leftIf 24 = .ok (.aload_n 2, 1) := by decide +kernel
theorem dX10_leftIf_25 : decode cX10_leftIf 25 = .ok (.getfield 177, 3) := by decide +kernel
theorem dX10_leftIf_28 : decode cX10_leftIf 28 = .ok (.iload_n 3, 1) := by decide +kernel
theorem dX10_leftIf_29 : decode cX10_leftIf 29 = .ok (.iconst 0, 1) := by decide +kernel
theorem dX10_leftIf_30 : decode cX10_leftIf 30 = .ok (.iload 4, 2) := by decide +kernel
theorem dX10_leftIf_32 : decode cX10_leftIf 32 = .ok (.invokevirtual 180, 3) := by decide +kernel
theorem dX10_leftIf_35 : decode cX10_leftIf 35 = .ok (.aload_n 0, 1) := by decide +kernel
theorem dX10_leftIf_36 : decode cX10_leftIf 36 = .ok (.getfield 47, 3) := by decide +kernel
theorem dX10_leftIf_39 : decode cX10_leftIf 39 = .ok (.getfield 225, 3) := by decide +kernel
theorem dX10_leftIf_42 : decode cX10_leftIf 42 = .ok (.ireturn, 1) := by decide +kernel
theorem dX10_vowDigested_0 : decode cX10_vowDigested 0 = .ok (.lload_n 1, 1) := by decide +kernel
theorem dX10_vowDigested_1 : decode cX10_vowDigested 1 = .ok (.lstore 4, 2) := by decide +kernel
theorem dX10_vowDigested_3 : decode cX10_vowDigested 3 = .ok (.iconst 0, 1) := by decide +kernel
theorem dX10_vowDigested_4 : decode cX10_vowDigested 4 = .ok (.istore 6, 2) := by decide +kernel
theorem dX10_vowDigested_6 : decode cX10_vowDigested 6 = .ok (.iload 6, 2) := by decide +kernel
theorem dX10_vowDigested_8 : decode cX10_vowDigested 8 = .ok (.iconst 3, 1) := by decide +kernel
theorem dX10_vowDigested_9 : decode cX10_vowDigested 9 = .ok (.if_icmp .gt 25, 3) := by decide +kernel
theorem dX10_vowDigested_12 : decode cX10_vowDigested 12 = .ok (.ldc2_w 241, 3) := by decide +kernel
theorem dX10_vowDigested_15 : decode cX10_vowDigested 15 = .ok (.lload 4, 2) := by decide +kernel
theorem dX10_vowDigested_17 : decode cX10_vowDigested 17 = .ok (.lmul, 1) := by decide +kernel
theorem dX10_vowDigested_18 : decode cX10_vowDigested 18 = .ok (.aload_n 3, 1) := by decide +kernel
theorem dX10_vowDigested_19 : decode cX10_vowDigested 19 = .ok (.iload 6, 2) := by decide +kernel
theorem dX10_vowDigested_21 : decode cX10_vowDigested 21 = .ok (.invokevirtual 98, 3) := by decide +kernel
theorem dX10_vowDigested_24 : decode cX10_vowDigested 24 = .ok (.i2l, 1) := by decide +kernel
theorem dX10_vowDigested_25 : decode cX10_vowDigested 25 = .ok (.ladd, 1) := by decide +kernel
theorem dX10_vowDigested_26 : decode cX10_vowDigested 26 = .ok (.lstore 4, 2) := by decide +kernel
theorem dX10_vowDigested_28 : decode cX10_vowDigested 28 = .ok (.iinc 6 1, 3) := by decide +kernel
theorem dX10_vowDigested_31 : decode cX10_vowDigested 31 = .ok (.goto (-25), 3) := by decide +kernel
theorem dX10_vowDigested_34 : decode cX10_vowDigested 34 = .ok (.aload_n 0, 1) := by decide +kernel
theorem dX10_vowDigested_35 : decode cX10_vowDigested 35 = .ok (.getfield 12, 3) := by decide +kernel
theorem dX10_vowDigested_38 : decode cX10_vowDigested 38 = .ok (.invokevirtual 194, 3) := by decide +kernel
theorem dX10_vowDigested_41 : decode cX10_vowDigested 41 = .ok (.ifCond .eq 6, 3) := by decide +kernel
theorem dX10_vowDigested_44 : decode cX10_vowDigested 44 = .ok (.lload 4, 2) := by decide +kernel
theorem dX10_vowDigested_46 : decode cX10_vowDigested 46 = .ok (.lreturn, 1) := by decide +kernel
theorem dX10_vowDigested_47 : decode cX10_vowDigested 47 = .ok (.aload_n 0, 1) := by decide +kernel
theorem dX10_vowDigested_48 : decode cX10_vowDigested 48 = .ok (.getfield 47, 3) := by decide +kernel
theorem dX10_vowDigested_51 : decode cX10_vowDigested 51 = .ok (.aload_n 0, 1) := by decide +kernel
theorem dX10_vowDigested_52 : decode cX10_vowDigested 52 = .ok (.getfield 31, 3) := by decide +kernel
theorem dX10_vowDigested_55 : decode cX10_vowDigested 55 = .ok (.aload_n 3, 1) := by decide +kernel
theorem dX10_vowDigested_56 : decode cX10_vowDigested 56 = .ok (.iconst 0, 1) := by decide +kernel
theorem dX10_vowDigested_57 : decode cX10_vowDigested 57 = .ok (.iconst 0, 1) := by decide +kernel
theorem dX10_vowDigested_58 : decode cX10_vowDigested 58 = .ok (.invokevirtual 163, 3) := by decide +kernel
theorem dX10_vowDigested_61 : decode cX10_vowDigested 61 = .ok (.iconst 0, 1) := by decide +kernel
theorem dX10_vowDigested_62 : decode cX10_vowDigested 62 = .ok (.istore 6, 2) := by decide +kernel
theorem dX10_vowDigested_64 : decode cX10_vowDigested 64 = .ok (.iload 6, 2) := by decide +kernel
theorem dX10_vowDigested_66 : decode cX10_vowDigested 66 = .ok (.iconst 5, 1) := by decide +kernel
theorem dX10_vowDigested_67 : decode cX10_vowDigested 67 = .ok (.if_icmp .gt 28, 3) := by decide +kernel
theorem dX10_vowDigested_70 : decode cX10_vowDigested 70 = .ok (.ldc2_w 241, 3) := by decide +kernel
theorem dX10_vowDigested_73 : decode cX10_vowDigested 73 = .ok (.lload 4, 2) := by decide +kernel
theorem dX10_vowDigested_75 : decode cX10_vowDigested 75 = .ok (.lmul, 1) := by decide +kernel
theorem dX10_vowDigested_76 : decode cX10_vowDigested 76 = .ok (.aload_n 0, 1) := by decide +kernel
theorem dX10_vowDigested_77 : decode cX10_vowDigested 77 = .ok (.getfield 47, 3) := by decide +kernel
theorem dX10_vowDigested_80 : decode cX10_vowDigested 80 = .ok (.iload 6, 2) := by decide +kernel
theorem dX10_vowDigested_82 : decode cX10_vowDigested 82 = .ok (.invokevirtual 167, 3) := by decide +kernel
theorem dX10_vowDigested_85 : decode cX10_vowDigested 85 = .ok (.i2l, 1) := by decide +kernel
theorem dX10_vowDigested_86 : decode cX10_vowDigested 86 = .ok (.ladd, 1) := by decide +kernel
theorem dX10_vowDigested_87 : decode cX10_vowDigested 87 = .ok (.lstore 4, 2) := by decide +kernel
theorem dX10_vowDigested_89 : decode cX10_vowDigested 89 = .ok (.iinc 6 1, 3) := by decide +kernel
theorem dX10_vowDigested_92 : decode cX10_vowDigested 92 = .ok (.goto (-28), 3) := by decide +kernel
theorem dX10_vowDigested_95 : decode cX10_vowDigested 95 = .ok (.ldc2_w 241, 3) := by decide +kernel
theorem dX10_vowDigested_98 : decode cX10_vowDigested 98 = .ok (.lload 4, 2) := by decide +kernel
theorem dX10_vowDigested_100 : decode cX10_vowDigested 100 = .ok (.lmul, 1) := by decide +kernel
theorem dX10_vowDigested_101 : decode cX10_vowDigested 101 = .ok (.aload_n 0, 1) := by decide +kernel
theorem dX10_vowDigested_102 : decode cX10_vowDigested 102 = .ok (.getfield 47, 3) := by decide +kernel
theorem dX10_vowDigested_105 : decode cX10_vowDigested 105 = .ok (.invokevirtual 294, 3) := by decide +kernel
theorem dX10_vowDigested_108 : decode cX10_vowDigested 108 = .ok (.i2l, 1) := by decide +kernel
theorem dX10_vowDigested_109 : decode cX10_vowDigested 109 = .ok (.ladd, 1) := by decide +kernel
theorem dX10_vowDigested_110 : decode cX10_vowDigested 110 = .ok (.lreturn, 1) := by decide +kernel
theorem dJ9_max_7cf53_0 : decode cJ9_max_7cf53 0 = .ok (.iload_n 0, 1) := by decide +kernel
theorem dJ9_max_7cf53_1 : decode cJ9_max_7cf53 1 = .ok (.iload_n 1, 1) := by decide +kernel
theorem dJ9_max_7cf53_2 : decode cJ9_max_7cf53 2 = .ok (.if_icmp .lt 7, 3) := by decide +kernel
theorem dJ9_max_7cf53_5 : decode cJ9_max_7cf53 5 = .ok (.iload_n 0, 1) := by decide +kernel
theorem dJ9_max_7cf53_6 : decode cJ9_max_7cf53 6 = .ok (.goto 4, 3) := by decide +kernel
theorem dJ9_max_7cf53_9 : decode cJ9_max_7cf53 9 = .ok (.iload_n 1, 1) := by decide +kernel
theorem dJ9_max_7cf53_10 : decode cJ9_max_7cf53 10 = .ok (.ireturn, 1) := by decide +kernel
theorem dJ9_min_7cf53_0 : decode cJ9_min_7cf53 0 = .ok (.iload_n 0, 1) := by decide +kernel
theorem dJ9_min_7cf53_1 : decode cJ9_min_7cf53 1 = .ok (.iload_n 1, 1) := by decide +kernel
theorem dJ9_min_7cf53_2 : decode cJ9_min_7cf53 2 = .ok (.if_icmp .gt 7, 3) := by decide +kernel
theorem dJ9_min_7cf53_5 : decode cJ9_min_7cf53 5 = .ok (.iload_n 0, 1) := by decide +kernel
theorem dJ9_min_7cf53_6 : decode cJ9_min_7cf53 6 = .ok (.goto 4, 3) := by decide +kernel
theorem dJ9_min_7cf53_9 : decode cJ9_min_7cf53 9 = .ok (.iload_n 1, 1) := by decide +kernel
theorem dJ9_min_7cf53_10 : decode cJ9_min_7cf53 10 = .ok (.ireturn, 1) := by decide +kernel
theorem dJxa1e45_init_da8c8_0 : decode cJxa1e45_init_da8c8 0 = .ok (.aload_n 0, 1) := by decide +kernel
theorem dJxa1e45_init_da8c8_1 : decode cJxa1e45_init_da8c8 1 = .ok (.invokespecial 1, 3) := by decide +kernel
theorem dJxa1e45_init_da8c8_4 : decode cJxa1e45_init_da8c8 4 = .ok (.return_, 1) := by decide +kernel
theorem dJxc12de_init_da8c8_0 : decode cJxc12de_init_da8c8 0 = .ok (.aload_n 0, 1) := by decide +kernel
theorem dJxc12de_init_da8c8_1 : decode cJxc12de_init_da8c8 1 = .ok (.invokespecial 1, 3) := by decide +kernel
theorem dJxc12de_init_da8c8_4 : decode cJxc12de_init_da8c8 4 = .ok (.aload_n 0, 1) := by decide +kernel
theorem dJxc12de_init_da8c8_5 : decode cJxc12de_init_da8c8 5 = .ok (.iconst 0, 1) := by decide +kernel
theorem dJxc12de_init_da8c8_6 : decode cJxc12de_init_da8c8 6 = .ok (.putfield 7, 3) := by decide +kernel
theorem dJxc12de_init_da8c8_9 : decode cJxc12de_init_da8c8 9 = .ok (.return_, 1) := by decide +kernel
theorem dJx4a65c_init_da8c8_0 : decode cJx4a65c_init_da8c8 0 = .ok (.aload_n 0, 1) := by decide +kernel
theorem dJx4a65c_init_da8c8_1 : decode cJx4a65c_init_da8c8 1 = .ok (.invokespecial 1, 3) := by decide +kernel
theorem dJx4a65c_init_da8c8_4 : decode cJx4a65c_init_da8c8 4 = .ok (.aload_n 0, 1) := by decide +kernel
theorem dJx4a65c_init_da8c8_5 : decode cJx4a65c_init_da8c8 5 = .ok (.getstatic 39, 3) := by decide +kernel
theorem dJx4a65c_init_da8c8_8 : decode cJx4a65c_init_da8c8 8 = .ok (.putfield 9, 3) := by decide +kernel
theorem dJx4a65c_init_da8c8_11 : decode cJx4a65c_init_da8c8 11 = .ok (.return_, 1) := by decide +kernel
theorem dJx4a65c_grow_92f84_0 : decode cJx4a65c_grow_92f84 0 = .ok (.aload_n 0, 1) := by decide +kernel
theorem dJx4a65c_grow_92f84_1 : decode cJx4a65c_grow_92f84 1 = .ok (.getfield 9, 3) := by decide +kernel
theorem dJx4a65c_grow_92f84_4 : decode cJx4a65c_grow_92f84 4 = .ok (.arraylength, 1) := by decide +kernel
theorem dJx4a65c_grow_92f84_5 : decode cJx4a65c_grow_92f84 5 = .ok (.istore_n 2, 1) := by decide +kernel
theorem dJx4a65c_grow_92f84_6 : decode cJx4a65c_grow_92f84 6 = .ok (.iload_n 2, 1) := by decide +kernel
theorem dJx4a65c_grow_92f84_7 : decode cJx4a65c_grow_92f84 7 = .ok (.ifCond .gt 13, 3) := by decide +kernel
theorem dJx4a65c_grow_92f84_10 : decode cJx4a65c_grow_92f84 10 = .ok (.aload_n 0, 1) := by decide +kernel
theorem dJx4a65c_grow_92f84_11 : decode cJx4a65c_grow_92f84 11 = .ok (.getfield 9, 3) := by decide +kernel
theorem dJx4a65c_grow_92f84_14 : decode cJx4a65c_grow_92f84 14 = .ok (.getstatic 39, 3) := by decide +kernel
theorem dJx4a65c_grow_92f84_17 : decode cJx4a65c_grow_92f84 17 = .ok (.if_acmp .eq 28, 3) := by decide +kernel
theorem dJx4a65c_grow_92f84_20 : decode cJx4a65c_grow_92f84 20 = .ok (.iload_n 2, 1) := by decide +kernel
theorem dJx4a65c_grow_92f84_21 : decode cJx4a65c_grow_92f84 21 = .ok (.iload_n 1, 1) := by decide +kernel
theorem dJx4a65c_grow_92f84_22 : decode cJx4a65c_grow_92f84 22 = .ok (.iload_n 2, 1) := by decide +kernel
theorem dJx4a65c_grow_92f84_23 : decode cJx4a65c_grow_92f84 23 = .ok (.isub, 1) := by decide +kernel
theorem dJx4a65c_grow_92f84_24 : decode cJx4a65c_grow_92f84 24 = .ok (.iload_n 2, 1) := by decide +kernel
theorem dJx4a65c_grow_92f84_25 : decode cJx4a65c_grow_92f84 25 = .ok (.iconst 1, 1) := by decide +kernel
theorem dJx4a65c_grow_92f84_26 : decode cJx4a65c_grow_92f84 26 = .ok (.ishr, 1) := by decide +kernel
theorem dJx4a65c_grow_92f84_27 : decode cJx4a65c_grow_92f84 27 = .ok (.invokestatic 73, 3) := by decide +kernel
theorem dJx4a65c_grow_92f84_30 : decode cJx4a65c_grow_92f84 30 = .ok (.istore_n 3, 1) := by decide +kernel
theorem dJx4a65c_grow_92f84_31 : decode cJx4a65c_grow_92f84 31 = .ok (.aload_n 0, 1) := by decide +kernel
theorem dJx4a65c_grow_92f84_32 : decode cJx4a65c_grow_92f84 32 = .ok (.aload_n 0, 1) := by decide +kernel
theorem dJx4a65c_grow_92f84_33 : decode cJx4a65c_grow_92f84 33 = .ok (.getfield 9, 3) := by decide +kernel
theorem dJx4a65c_grow_92f84_36 : decode cJx4a65c_grow_92f84 36 = .ok (.iload_n 3, 1) := by decide +kernel
theorem dJx4a65c_grow_92f84_37 : decode cJx4a65c_grow_92f84 37 = .ok (.invokestatic 66, 3) := by decide +kernel
theorem dJx4a65c_grow_92f84_40 : decode cJx4a65c_grow_92f84 40 = .ok (.dup_x1, 1) := by decide +kernel
theorem dJx4a65c_grow_92f84_41 : decode cJx4a65c_grow_92f84 41 = .ok (.putfield 9, 3) := by decide +kernel
theorem dJx4a65c_grow_92f84_44 : decode cJx4a65c_grow_92f84 44 = .ok (.areturn, 1) := by decide +kernel
theorem dJx4a65c_grow_92f84_45 : decode cJx4a65c_grow_92f84 45 = .ok (.aload_n 0, 1) := by decide +kernel
theorem dJx4a65c_grow_92f84_46 : decode cJx4a65c_grow_92f84 46 = .ok (.bipush 10, 2) := by decide +kernel
theorem dJx4a65c_grow_92f84_48 : decode cJx4a65c_grow_92f84 48 = .ok (.iload_n 1, 1) := by decide +kernel
theorem dJx4a65c_grow_92f84_49 : decode cJx4a65c_grow_92f84 49 = .ok (.invokestatic 79, 3) := by decide +kernel
theorem dJx4a65c_grow_92f84_52 : decode cJx4a65c_grow_92f84 52 = .ok (.anewarray 7, 3) := by decide +kernel
theorem dJx4a65c_grow_92f84_55 : decode cJx4a65c_grow_92f84 55 = .ok (.dup_x1, 1) := by decide +kernel
theorem dJx4a65c_grow_92f84_56 : decode cJx4a65c_grow_92f84 56 = .ok (.putfield 9, 3) := by decide +kernel
theorem dJx4a65c_grow_92f84_59 : decode cJx4a65c_grow_92f84 59 = .ok (.areturn, 1) := by decide +kernel
theorem dJx4a65c_grow_d5877_0 : decode cJx4a65c_grow_d5877 0 = .ok (.aload_n 0, 1) := by decide +kernel
theorem dJx4a65c_grow_d5877_1 : decode cJx4a65c_grow_d5877 1 = .ok (.aload_n 0, 1) := by decide +kernel
theorem dJx4a65c_grow_d5877_2 : decode cJx4a65c_grow_d5877 2 = .ok (.getfield 48, 3) := by decide +kernel
theorem dJx4a65c_grow_d5877_5 : decode cJx4a65c_grow_d5877 5 = .ok (.iconst 1, 1) := by decide +kernel
theorem dJx4a65c_grow_d5877_6 : decode cJx4a65c_grow_d5877 6 = .ok (.iadd, 1) := by decide +kernel
theorem dJx4a65c_grow_d5877_7 : decode cJx4a65c_grow_d5877 7 = .ok (.invokevirtual 69, 3) := by decide +kernel
theorem dJx4a65c_grow_d5877_10 : decode cJx4a65c_grow_d5877 10 = .ok (.areturn, 1) := by decide +kernel
theorem dJx4a65c_size_8abf5_0 : decode cJx4a65c_size_8abf5 0 = .ok (.aload_n 0, 1) := by decide +kernel
theorem dJx4a65c_size_8abf5_1 : decode cJx4a65c_size_8abf5 1 = .ok (.getfield 48, 3) := by decide +kernel
theorem dJx4a65c_size_8abf5_4 : decode cJx4a65c_size_8abf5 4 = .ok (.ireturn, 1) := by decide +kernel
theorem dJx4a65c_isEmpty_aae02_0 : decode cJx4a65c_isEmpty_aae02 0 = .ok (.aload_n 0, 1) := by decide +kernel
theorem dJx4a65c_isEmpty_aae02_1 : decode cJx4a65c_isEmpty_aae02 1 = .ok (.getfield 48, 3) := by decide +kernel
theorem dJx4a65c_isEmpty_aae02_4 : decode cJx4a65c_isEmpty_aae02 4 = .ok (.ifCond .ne 7, 3) := by decide +kernel
theorem dJx4a65c_isEmpty_aae02_7 : decode cJx4a65c_isEmpty_aae02 7 = .ok (.iconst 1, 1) := by decide +kernel
theorem dJx4a65c_isEmpty_aae02_8 : decode cJx4a65c_isEmpty_aae02 8 = .ok (.goto 4, 3) := by decide +kernel
theorem dJx4a65c_isEmpty_aae02_11 : decode cJx4a65c_isEmpty_aae02 11 = .ok (.iconst 0, 1) := by decide +kernel
theorem dJx4a65c_isEmpty_aae02_12 : decode cJx4a65c_isEmpty_aae02 12 = .ok (.ireturn, 1) := by decide +kernel
theorem dJx4a65c_elementData_915e3_0 : decode cJx4a65c_elementData_915e3 0 = .ok (.aload_n 0, 1) := by decide +kernel
theorem dJx4a65c_elementData_915e3_1 : decode cJx4a65c_elementData_915e3 1 = .ok (.getfield 9, 3) := by decide +kernel
theorem dJx4a65c_elementData_915e3_4 : decode cJx4a65c_elementData_915e3 4 = .ok (.iload_n 1, 1) := by decide +kernel
theorem dJx4a65c_elementData_915e3_5 : decode cJx4a65c_elementData_915e3 5 = .ok (.aaload, 1) := by decide +kernel
theorem dJx4a65c_elementData_915e3_6 : decode cJx4a65c_elementData_915e3 6 = .ok (.areturn, 1) := by decide +kernel
theorem dJx4a65c_get_915e3_0 : decode cJx4a65c_get_915e3 0 = .ok (.iload_n 1, 1) := by decide +kernel
theorem dJx4a65c_get_915e3_1 : decode cJx4a65c_get_915e3 1 = .ok (.aload_n 0, 1) := by decide +kernel
theorem dJx4a65c_get_915e3_2 : decode cJx4a65c_get_915e3 2 = .ok (.getfield 48, 3) := by decide +kernel
theorem dJx4a65c_get_915e3_5 : decode cJx4a65c_get_915e3 5 = .ok (.invokestatic 118, 3) := by decide +kernel
theorem dJx4a65c_get_915e3_8 : decode cJx4a65c_get_915e3 8 = .ok (.pop, 1) := by decide +kernel
theorem dJx4a65c_get_915e3_9 : decode cJx4a65c_get_915e3 9 = .ok (.aload_n 0, 1) := by decide +kernel
theorem dJx4a65c_get_915e3_10 : decode cJx4a65c_get_915e3 10 = .ok (.iload_n 1, 1) := by decide +kernel
theorem dJx4a65c_get_915e3_11 : decode cJx4a65c_get_915e3 11 = .ok (.invokevirtual 123, 3) := by decide +kernel
theorem dJx4a65c_get_915e3_14 : decode cJx4a65c_get_915e3 14 = .ok (.areturn, 1) := by decide +kernel
theorem dJx4a65c_add_72be8_0 : decode cJx4a65c_add_72be8 0 = .ok (.iload_n 3, 1) := by decide +kernel
theorem dJx4a65c_add_72be8_1 : decode cJx4a65c_add_72be8 1 = .ok (.aload_n 2, 1) := by decide +kernel
theorem dJx4a65c_add_72be8_2 : decode cJx4a65c_add_72be8 2 = .ok (.arraylength, 1) := by decide +kernel
theorem dJx4a65c_add_72be8_3 : decode cJx4a65c_add_72be8 3 = .ok (.if_icmp .ne 8, 3) := by decide +kernel
theorem dJx4a65c_add_72be8_6 : decode cJx4a65c_add_72be8 6 = .ok (.aload_n 0, 1) := by decide +kernel
theorem dJx4a65c_add_72be8_7 : decode cJx4a65c_add_72be8 7 = .ok (.invokevirtual 129, 3) := by decide +kernel
theorem dJx4a65c_add_72be8_10 : decode cJx4a65c_add_72be8 10 = .ok (.astore_n 2, 1) := by decide +kernel
theorem dJx4a65c_add_72be8_11 : decode cJx4a65c_add_72be8 11 = .ok (.aload_n 2, 1) := by decide +kernel
theorem dJx4a65c_add_72be8_12 : decode cJx4a65c_add_72be8 12 = .ok (.iload_n 3, 1) := by decide +kernel
theorem dJx4a65c_add_72be8_13 : decode cJx4a65c_add_72be8 13 = .ok (.aload_n 1, 1) := by decide +kernel
theorem dJx4a65c_add_72be8_14 : decode cJx4a65c_add_72be8 14 = .ok (.aastore, 1) := by decide +kernel
theorem dJx4a65c_add_72be8_15 : decode cJx4a65c_add_72be8 15 = .ok (.aload_n 0, 1) := by decide +kernel
theorem dJx4a65c_add_72be8_16 : decode cJx4a65c_add_72be8 16 = .ok (.iload_n 3, 1) := by decide +kernel
theorem dJx4a65c_add_72be8_17 : decode cJx4a65c_add_72be8 17 = .ok (.iconst 1, 1) := by decide +kernel
theorem dJx4a65c_add_72be8_18 : decode cJx4a65c_add_72be8 18 = .ok (.iadd, 1) := by decide +kernel
theorem dJx4a65c_add_72be8_19 : decode cJx4a65c_add_72be8 19 = .ok (.putfield 48, 3) := by decide +kernel
theorem dJx4a65c_add_72be8_22 : decode cJx4a65c_add_72be8 22 = .ok (.return_, 1) := by decide +kernel
theorem dJx4a65c_add_9ea2d_0 : decode cJx4a65c_add_9ea2d 0 = .ok (.aload_n 0, 1) := by decide +kernel
theorem dJx4a65c_add_9ea2d_1 : decode cJx4a65c_add_9ea2d 1 = .ok (.dup, 1) := by decide +kernel
theorem dJx4a65c_add_9ea2d_2 : decode cJx4a65c_add_9ea2d 2 = .ok (.getfield 63, 3) := by decide +kernel
theorem dJx4a65c_add_9ea2d_5 : decode cJx4a65c_add_9ea2d 5 = .ok (.iconst 1, 1) := by decide +kernel
theorem dJx4a65c_add_9ea2d_6 : decode cJx4a65c_add_9ea2d 6 = .ok (.iadd, 1) := by decide +kernel
theorem dJx4a65c_add_9ea2d_7 : decode cJx4a65c_add_9ea2d 7 = .ok (.putfield 63, 3) := by decide +kernel
theorem dJx4a65c_add_9ea2d_10 : decode cJx4a65c_add_9ea2d 10 = .ok (.aload_n 0, 1) := by decide +kernel
theorem dJx4a65c_add_9ea2d_11 : decode cJx4a65c_add_9ea2d 11 = .ok (.aload_n 1, 1) := by decide +kernel
theorem dJx4a65c_add_9ea2d_12 : decode cJx4a65c_add_9ea2d 12 = .ok (.aload_n 0, 1) := by decide +kernel
theorem dJx4a65c_add_9ea2d_13 : decode cJx4a65c_add_9ea2d 13 = .ok (.getfield 9, 3) := by decide +kernel
theorem dJx4a65c_add_9ea2d_16 : decode cJx4a65c_add_9ea2d 16 = .ok (.aload_n 0, 1) := by decide +kernel
theorem dJx4a65c_add_9ea2d_17 : decode cJx4a65c_add_9ea2d 17 = .ok (.getfield 48, 3) := by decide +kernel
theorem dJx4a65c_add_9ea2d_20 : decode cJx4a65c_add_9ea2d 20 = .ok (.invokevirtual 131, 3) := by decide +kernel
theorem dJx4a65c_add_9ea2d_23 : decode cJx4a65c_add_9ea2d 23 = .ok (.iconst 1, 1) := by decide +kernel
theorem dJx4a65c_add_9ea2d_24 : decode cJx4a65c_add_9ea2d 24 = .ok (.ireturn, 1) := by decide +kernel
theorem dJ7_copyOf_1904c_0 : decode cJ7_copyOf_1904c 0 = .ok (.aload_n 0, 1) := by decide +kernel
theorem dJ7_copyOf_1904c_1 : decode cJ7_copyOf_1904c 1 = .ok (.iload_n 1, 1) := by decide +kernel
theorem dJ7_copyOf_1904c_2 : decode cJ7_copyOf_1904c 2 = .ok (.aload_n 0, 1) := by decide +kernel
theorem dJ7_copyOf_1904c_3 : decode cJ7_copyOf_1904c 3 = .ok (.invokevirtual 86, 3) := by decide +kernel
theorem dJ7_copyOf_1904c_6 : decode cJ7_copyOf_1904c 6 = .ok (.invokestatic 300, 3) := by decide +kernel
theorem dJ7_copyOf_1904c_9 : decode cJ7_copyOf_1904c 9 = .ok (.areturn, 1) := by decide +kernel
theorem dJ7_copyOf_6403c_0 : decode cJ7_copyOf_6403c 0 = .ok (.aload_n 2, 1) := by decide +kernel
theorem dJ7_copyOf_6403c_1 : decode cJ7_copyOf_6403c 1 = .ok (.ldc 110, 2) := by decide +kernel
theorem dJ7_copyOf_6403c_3 : decode cJ7_copyOf_6403c 3 = .ok (.if_acmp .ne 10, 3) := by decide +kernel
theorem dJ7_copyOf_6403c_6 : decode cJ7_copyOf_6403c 6 = .ok (.iload_n 1, 1) := by decide +kernel
theorem dJ7_copyOf_6403c_7 : decode cJ7_copyOf_6403c 7 = .ok (.anewarray 2, 3) := by decide +kernel
theorem dJ7_copyOf_6403c_10 : decode cJ7_copyOf_6403c 10 = .ok (.goto 14, 3) := by decide +kernel
theorem dJ7_copyOf_6403c_13 : decode cJ7_copyOf_6403c 13 = .ok (.aload_n 2, 1) := by decide +kernel
theorem dJ7_copyOf_6403c_14 : decode cJ7_copyOf_6403c 14 = .ok (.invokevirtual 90, 3) := by decide +kernel
theorem dJ7_copyOf_6403c_17 : decode cJ7_copyOf_6403c 17 = .ok (.iload_n 1, 1) := by decide +kernel
theorem dJ7_copyOf_6403c_18 : decode cJ7_copyOf_6403c 18 = .ok (.invokestatic 95, 3) := by decide +kernel
theorem dJ7_copyOf_6403c_21 : decode cJ7_copyOf_6403c 21 = .ok (.checkcast 110, 3) := by decide +kernel
theorem dJ7_copyOf_6403c_24 : decode cJ7_copyOf_6403c 24 = .ok (.astore_n 3, 1) := by decide +kernel
theorem dJ7_copyOf_6403c_25 : decode cJ7_copyOf_6403c 25 = .ok (.aload_n 0, 1) := by decide +kernel
theorem dJ7_copyOf_6403c_26 : decode cJ7_copyOf_6403c 26 = .ok (.iconst 0, 1) := by decide +kernel
theorem dJ7_copyOf_6403c_27 : decode cJ7_copyOf_6403c 27 = .ok (.aload_n 3, 1) := by decide +kernel
theorem dJ7_copyOf_6403c_28 : decode cJ7_copyOf_6403c 28 = .ok (.iconst 0, 1) := by decide +kernel
theorem dJ7_copyOf_6403c_29 : decode cJ7_copyOf_6403c 29 = .ok (.aload_n 0, 1) := by decide +kernel
theorem dJ7_copyOf_6403c_30 : decode cJ7_copyOf_6403c 30 = .ok (.arraylength, 1) := by decide +kernel
theorem dJ7_copyOf_6403c_31 : decode cJ7_copyOf_6403c 31 = .ok (.iload_n 1, 1) := by decide +kernel
theorem dJ7_copyOf_6403c_32 : decode cJ7_copyOf_6403c 32 = .ok (.invokestatic 304, 3) := by decide +kernel
theorem dJ7_copyOf_6403c_35 : decode cJ7_copyOf_6403c 35 = .ok (.invokestatic 150, 3) := by decide +kernel
theorem dJ7_copyOf_6403c_38 : decode cJ7_copyOf_6403c 38 = .ok (.aload_n 3, 1) := by decide +kernel
theorem dJ7_copyOf_6403c_39 : decode cJ7_copyOf_6403c 39 = .ok (.areturn, 1) := by decide +kernel
theorem dJ15_checkIndex_7cf53_0 : decode cJ15_checkIndex_7cf53 0 = .ok (.iload_n 0, 1) := by decide +kernel
theorem dJ15_checkIndex_7cf53_1 : decode cJ15_checkIndex_7cf53 1 = .ok (.iload_n 1, 1) := by decide +kernel
theorem dJ15_checkIndex_7cf53_2 : decode cJ15_checkIndex_7cf53 2 = .ok (.aconst_null, 1) := by decide +kernel
theorem dJ15_checkIndex_7cf53_3 : decode cJ15_checkIndex_7cf53 3 = .ok (.invokestatic 105, 3) := by decide +kernel
theorem dJ15_checkIndex_7cf53_6 : decode cJ15_checkIndex_7cf53 6 = .ok (.ireturn, 1) := by decide +kernel
theorem dJ8_newLength_cabcc_0 : decode cJ8_newLength_cabcc 0 = .ok (.iload_n 0, 1) := by decide +kernel
theorem dJ8_newLength_cabcc_1 : decode cJ8_newLength_cabcc 1 = .ok (.iload_n 1, 1) := by decide +kernel
theorem dJ8_newLength_cabcc_2 : decode cJ8_newLength_cabcc 2 = .ok (.iload_n 2, 1) := by decide +kernel
theorem dJ8_newLength_cabcc_3 : decode cJ8_newLength_cabcc 3 = .ok (.invokestatic 194, 3) := by decide +kernel
theorem dJ8_newLength_cabcc_6 : decode cJ8_newLength_cabcc 6 = .ok (.iadd, 1) := by decide +kernel
theorem dJ8_newLength_cabcc_7 : decode cJ8_newLength_cabcc 7 = .ok (.istore_n 3, 1) := by decide +kernel
theorem dJ8_newLength_cabcc_8 : decode cJ8_newLength_cabcc 8 = .ok (.iconst 0, 1) := by decide +kernel
theorem dJ8_newLength_cabcc_9 : decode cJ8_newLength_cabcc 9 = .ok (.iload_n 3, 1) := by decide +kernel
theorem dJ8_newLength_cabcc_10 : decode cJ8_newLength_cabcc 10 = .ok (.if_icmp .ge 11, 3) := by decide +kernel
theorem dJ8_newLength_cabcc_13 : decode cJ8_newLength_cabcc 13 = .ok (.iload_n 3, 1) := by decide +kernel
theorem dJ8_newLength_cabcc_14 : decode cJ8_newLength_cabcc 14 = .ok (.ldc 200, 2) := by decide +kernel
theorem dJ8_newLength_cabcc_16 : decode cJ8_newLength_cabcc 16 = .ok (.if_icmp .gt 5, 3) := by decide +kernel
theorem dJ8_newLength_cabcc_19 : decode cJ8_newLength_cabcc 19 = .ok (.iload_n 3, 1) := by decide +kernel
theorem dJ8_newLength_cabcc_20 : decode cJ8_newLength_cabcc 20 = .ok (.ireturn, 1) := by decide +kernel
theorem dJ8_newLength_cabcc_21 : decode cJ8_newLength_cabcc 21 = .ok (.iload_n 0, 1) := by decide +kernel
theorem dJ8_newLength_cabcc_22 : decode cJ8_newLength_cabcc 22 = .ok (.iload_n 1, 1) := by decide +kernel
theorem dJ8_newLength_cabcc_23 : decode cJ8_newLength_cabcc 23 = .ok (.invokestatic 201, 3) := by decide +kernel
theorem dJ8_newLength_cabcc_26 : decode cJ8_newLength_cabcc 26 = .ok (.ireturn, 1) := by decide +kernel
theorem dJ8_hugeLength_7cf53_0 : decode cJ8_hugeLength_7cf53 0 = .ok (.iload_n 0, 1) := by decide +kernel
theorem dJ8_hugeLength_7cf53_1 : decode cJ8_hugeLength_7cf53 1 = .ok (.iload_n 1, 1) := by decide +kernel
theorem dJ8_hugeLength_7cf53_2 : decode cJ8_hugeLength_7cf53 2 = .ok (.iadd, 1) := by decide +kernel
theorem dJ8_hugeLength_7cf53_3 : decode cJ8_hugeLength_7cf53 3 = .ok (.istore_n 2, 1) := by decide +kernel
theorem dJ8_hugeLength_7cf53_4 : decode cJ8_hugeLength_7cf53 4 = .ok (.iload_n 2, 1) := by decide +kernel
theorem dJ8_hugeLength_7cf53_5 : decode cJ8_hugeLength_7cf53 5 = .ok (.ifCond .ge 44, 3) := by decide +kernel
theorem dJ8_hugeLength_7cf53_8 : decode cJ8_hugeLength_7cf53 8 = .ok (.new 204, 3) := by decide +kernel
theorem dJ8_hugeLength_7cf53_11 : decode cJ8_hugeLength_7cf53 11 = .ok (.dup, 1) := by decide +kernel
theorem dJ8_hugeLength_7cf53_12 : decode cJ8_hugeLength_7cf53 12 = .ok (.new 89, 3) := by decide +kernel
theorem dJ8_hugeLength_7cf53_15 : decode cJ8_hugeLength_7cf53 15 = .ok (.dup, 1) := by decide +kernel
theorem dJ8_hugeLength_7cf53_16 : decode cJ8_hugeLength_7cf53 16 = .ok (.invokespecial 91, 3) := by decide +kernel
theorem dJ8_hugeLength_7cf53_19 : decode cJ8_hugeLength_7cf53 19 = .ok (.ldc 206, 2) := by decide +kernel
theorem dJ8_hugeLength_7cf53_21 : decode cJ8_hugeLength_7cf53 21 = .ok (.invokevirtual 94, 3) := by decide +kernel
theorem dJ8_hugeLength_7cf53_24 : decode cJ8_hugeLength_7cf53 24 = .ok (.iload_n 0, 1) := by decide +kernel
theorem dJ8_hugeLength_7cf53_25 : decode cJ8_hugeLength_7cf53 25 = .ok (.invokevirtual 98, 3) := by decide +kernel
theorem dJ8_hugeLength_7cf53_28 : decode cJ8_hugeLength_7cf53 28 = .ok (.ldc 208, 2) := by decide +kernel
theorem dJ8_hugeLength_7cf53_30 : decode cJ8_hugeLength_7cf53 30 = .ok (.invokevirtual 94, 3) := by decide +kernel
theorem dJ8_hugeLength_7cf53_33 : decode cJ8_hugeLength_7cf53 33 = .ok (.iload_n 1, 1) := by decide +kernel
theorem dJ8_hugeLength_7cf53_34 : decode cJ8_hugeLength_7cf53 34 = .ok (.invokevirtual 98, 3) := by decide +kernel
theorem dJ8_hugeLength_7cf53_37 : decode cJ8_hugeLength_7cf53 37 = .ok (.ldc 210, 2) := by decide +kernel
theorem dJ8_hugeLength_7cf53_39 : decode cJ8_hugeLength_7cf53 39 = .ok (.invokevirtual 94, 3) := by decide +kernel
theorem dJ8_hugeLength_7cf53_42 : decode cJ8_hugeLength_7cf53 42 = .ok (.invokevirtual 101, 3) := by decide +kernel
theorem dJ8_hugeLength_7cf53_45 : decode cJ8_hugeLength_7cf53 45 = .ok (.invokespecial 212, 3) := by decide +kernel
theorem dJ8_hugeLength_7cf53_48 : decode cJ8_hugeLength_7cf53 48 = .ok (.athrow, 1) := by decide +kernel
theorem dJ8_hugeLength_7cf53_49 : decode cJ8_hugeLength_7cf53 49 = .ok (.iload_n 2, 1) := by decide +kernel
theorem dJ8_hugeLength_7cf53_50 : decode cJ8_hugeLength_7cf53 50 = .ok (.ldc 200, 2) := by decide +kernel
theorem dJ8_hugeLength_7cf53_52 : decode cJ8_hugeLength_7cf53 52 = .ok (.if_icmp .gt 6, 3) := by decide +kernel
theorem dJ8_hugeLength_7cf53_55 : decode cJ8_hugeLength_7cf53 55 = .ok (.ldc 200, 2) := by decide +kernel
theorem dJ8_hugeLength_7cf53_57 : decode cJ8_hugeLength_7cf53 57 = .ok (.ireturn, 1) := by decide +kernel
theorem dJ8_hugeLength_7cf53_58 : decode cJ8_hugeLength_7cf53 58 = .ok (.iload_n 2, 1) := by decide +kernel
theorem dJ8_hugeLength_7cf53_59 : decode cJ8_hugeLength_7cf53 59 = .ok (.ireturn, 1) := by decide +kernel
theorem dJ3_checkIndex_8e157_0 : decode cJ3_checkIndex_8e157 0 = .ok (.iload_n 0, 1) := by decide +kernel
theorem dJ3_checkIndex_8e157_1 : decode cJ3_checkIndex_8e157 1 = .ok (.ifCond .lt 8, 3) := by decide +kernel
theorem dJ3_checkIndex_8e157_4 : decode cJ3_checkIndex_8e157 4 = .ok (.iload_n 0, 1) := by decide +kernel
theorem dJ3_checkIndex_8e157_5 : decode cJ3_checkIndex_8e157 5 = .ok (.iload_n 1, 1) := by decide +kernel
theorem dJ3_checkIndex_8e157_6 : decode cJ3_checkIndex_8e157 6 = .ok (.if_icmp .lt 10, 3) := by decide +kernel
theorem dJ3_checkIndex_8e157_9 : decode cJ3_checkIndex_8e157 9 = .ok (.aload_n 2, 1) := by decide +kernel
theorem dJ3_checkIndex_8e157_10 : decode cJ3_checkIndex_8e157 10 = .ok (.iload_n 0, 1) := by decide +kernel
theorem dJ3_checkIndex_8e157_11 : decode cJ3_checkIndex_8e157 11 = .ok (.iload_n 1, 1) := by decide +kernel
theorem dJ3_checkIndex_8e157_12 : decode cJ3_checkIndex_8e157 12 = .ok (.invokestatic 95, 3) := by decide +kernel
theorem dJ3_checkIndex_8e157_15 : decode cJ3_checkIndex_8e157 15 = .ok (.athrow, 1) := by decide +kernel
theorem dJ3_checkIndex_8e157_16 : decode cJ3_checkIndex_8e157 16 = .ok (.iload_n 0, 1) := by decide +kernel
theorem dJ3_checkIndex_8e157_17 : decode cJ3_checkIndex_8e157 17 = .ok (.ireturn, 1) := by decide +kernel
end
section
theorem dL_law_0 : decode cL_law 0 = .ok (.new 7, 3) := by decide +kernel
theorem dL_law_3 : decode cL_law 3 = .ok (.dup, 1) := by decide +kernel
theorem dL_law_4 : decode cL_law 4 = .ok (.invokespecial 9, 3) := by decide +kernel
theorem dL_law_7 : decode cL_law 7 = .ok (.astore_n 1, 1) := by decide +kernel
theorem dL_law_8 : decode cL_law 8 = .ok (.new 10, 3) := by decide +kernel
theorem dL_law_11 : decode cL_law 11 = .ok (.dup, 1) := by decide +kernel
theorem dL_law_12 : decode cL_law 12 = .ok (.invokespecial 12, 3) := by decide +kernel
theorem dL_law_15 : decode cL_law 15 = .ok (.astore_n 2, 1) := by decide +kernel
theorem dL_law_16 : decode cL_law 16 = .ok (.iconst 0, 1) := by decide +kernel
theorem dL_law_17 : decode cL_law 17 = .ok (.istore_n 3, 1) := by decide +kernel
theorem dL_law_18 : decode cL_law 18 = .ok (.iload_n 3, 1) := by decide +kernel
theorem dL_law_19 : decode cL_law 19 = .ok (.aload_n 0, 1) := by decide +kernel
theorem dL_law_20 : decode cL_law 20 = .ok (.arraylength, 1) := by decide +kernel
theorem dL_law_21 : decode cL_law 21 = .ok (.bipush 7, 2) := by decide +kernel
theorem dL_law_23 : decode cL_law 23 = .ok (.isub, 1) := by decide +kernel
theorem dL_law_24 : decode cL_law 24 = .ok (.if_icmp .gt 1142, 3) := by decide +kernel
theorem dL_law_27 : decode cL_law 27 = .ok (.aload_n 0, 1) := by decide +kernel
theorem dL_law_28 : decode cL_law 28 = .ok (.iload_n 3, 1) := by decide +kernel
theorem dL_law_29 : decode cL_law 29 = .ok (.iaload, 1) := by decide +kernel
theorem dL_law_30 : decode cL_law 30 = .ok (.bipush 31, 2) := by decide +kernel
theorem dL_law_32 : decode cL_law 32 = .ok (.iand, 1) := by decide +kernel
theorem dL_law_33 : decode cL_law 33 = .ok (.tableswitch 1127 0 28 #[131, 184, 197, 210, 223, 256, 331, 364, 397, 430, 463, 496, 519, 558, 611, 664, 727, 760, 783, 816, 849, 892, 935, 978, 1011, 1064, 1077, 1090, 1113], 131) := by decide +kernel
theorem dL_law_164 : decode cL_law 164 = .ok (.aload_n 1, 1) := by decide +kernel
theorem dL_law_165 : decode cL_law 165 = .ok (.aload_n 0, 1) := by decide +kernel
theorem dL_law_166 : decode cL_law 166 = .ok (.iload_n 3, 1) := by decide +kernel
theorem dL_law_167 : decode cL_law 167 = .ok (.iconst 1, 1) := by decide +kernel
theorem dL_law_168 : decode cL_law 168 = .ok (.iadd, 1) := by decide +kernel
theorem dL_law_169 : decode cL_law 169 = .ok (.iaload, 1) := by decide +kernel
theorem dL_law_170 : decode cL_law 170 = .ok (.i2l, 1) := by decide +kernel
theorem dL_law_171 : decode cL_law 171 = .ok (.bipush 32, 2) := by decide +kernel
theorem dL_law_173 : decode cL_law 173 = .ok (.lshl, 1) := by decide +kernel
theorem dL_law_174 : decode cL_law 174 = .ok (.aload_n 0, 1) := by decide +kernel
theorem dL_law_175 : decode cL_law 175 = .ok (.iload_n 3, 1) := by decide +kernel
theorem dL_law_176 : decode cL_law 176 = .ok (.iconst 2, 1) := by decide +kernel
theorem dL_law_177 : decode cL_law 177 = .ok (.iadd, 1) := by decide +kernel
theorem dL_law_178 : decode cL_law 178 = .ok (.iaload, 1) := by decide +kernel
theorem dL_law_179 : decode cL_law 179 = .ok (.i2l, 1) := by decide +kernel
theorem dL_law_180 : decode cL_law 180 = .ok (.ldc2_w 13, 3) := by decide +kernel
theorem dL_law_183 : decode cL_law 183 = .ok (.land, 1) := by decide +kernel
theorem dL_law_184 : decode cL_law 184 = .ok (.lor, 1) := by decide +kernel
theorem dL_law_185 : decode cL_law 185 = .ok (.invokevirtual 15, 3) := by decide +kernel
theorem dL_law_188 : decode cL_law 188 = .ok (.aload_n 2, 1) := by decide +kernel
theorem dL_law_189 : decode cL_law 189 = .ok (.aload_n 0, 1) := by decide +kernel
theorem dL_law_190 : decode cL_law 190 = .ok (.iload_n 3, 1) := by decide +kernel
theorem dL_law_191 : decode cL_law 191 = .ok (.iconst 1, 1) := by decide +kernel
theorem dL_law_192 : decode cL_law 192 = .ok (.iadd, 1) := by decide +kernel
theorem dL_law_193 : decode cL_law 193 = .ok (.iaload, 1) := by decide +kernel
theorem dL_law_194 : decode cL_law 194 = .ok (.i2l, 1) := by decide +kernel
theorem dL_law_195 : decode cL_law 195 = .ok (.bipush 32, 2) := by decide +kernel
theorem dL_law_197 : decode cL_law 197 = .ok (.lshl, 1) := by decide +kernel
theorem dL_law_198 : decode cL_law 198 = .ok (.aload_n 0, 1) := by decide +kernel
theorem dL_law_199 : decode cL_law 199 = .ok (.iload_n 3, 1) := by decide +kernel
theorem dL_law_200 : decode cL_law 200 = .ok (.iconst 2, 1) := by decide +kernel
theorem dL_law_201 : decode cL_law 201 = .ok (.iadd, 1) := by decide +kernel
theorem dL_law_202 : decode cL_law 202 = .ok (.iaload, 1) := by decide +kernel
theorem dL_law_203 : decode cL_law 203 = .ok (.i2l, 1) := by decide +kernel
theorem dL_law_204 : decode cL_law 204 = .ok (.ldc2_w 13, 3) := by decide +kernel
theorem dL_law_207 : decode cL_law 207 = .ok (.land, 1) := by decide +kernel
theorem dL_law_208 : decode cL_law 208 = .ok (.lor, 1) := by decide +kernel
theorem dL_law_209 : decode cL_law 209 = .ok (.invokevirtual 19, 3) := by decide +kernel
theorem dL_law_212 : decode cL_law 212 = .ok (.if_icmp .eq 948, 3) := by decide +kernel
theorem dL_law_215 : decode cL_law 215 = .ok (.iconst 0, 1) := by decide +kernel
theorem dL_law_216 : decode cL_law 216 = .ok (.ireturn, 1) := by decide +kernel
theorem dL_law_217 : decode cL_law 217 = .ok (.aload_n 1, 1) := by decide +kernel
theorem dL_law_218 : decode cL_law 218 = .ok (.invokevirtual 20, 3) := by decide +kernel
theorem dL_law_221 : decode cL_law 221 = .ok (.aload_n 2, 1) := by decide +kernel
theorem dL_law_222 : decode cL_law 222 = .ok (.invokevirtual 24, 3) := by decide +kernel
theorem dL_law_225 : decode cL_law 225 = .ok (.if_icmp .eq 935, 3) := by decide +kernel
theorem dL_law_228 : decode cL_law 228 = .ok (.iconst 0, 1) := by decide +kernel
theorem dL_law_229 : decode cL_law 229 = .ok (.ireturn, 1) := by decide +kernel
theorem dL_law_230 : decode cL_law 230 = .ok (.aload_n 1, 1) := by decide +kernel
theorem dL_law_231 : decode cL_law 231 = .ok (.invokevirtual 25, 3) := by decide +kernel
theorem dL_law_234 : decode cL_law 234 = .ok (.aload_n 2, 1) := by decide +kernel
theorem dL_law_235 : decode cL_law 235 = .ok (.invokevirtual 28, 3) := by decide +kernel
theorem dL_law_238 : decode cL_law 238 = .ok (.if_icmp .eq 922, 3) := by decide +kernel
theorem dL_law_241 : decode cL_law 241 = .ok (.iconst 0, 1) := by decide +kernel
theorem dL_law_242 : decode cL_law 242 = .ok (.ireturn, 1) := by decide +kernel
theorem dL_law_243 : decode cL_law 243 = .ok (.aload_n 1, 1) := by decide +kernel
theorem dL_law_244 : decode cL_law 244 = .ok (.invokevirtual 29, 3) := by decide +kernel
theorem dL_law_247 : decode cL_law 247 = .ok (.aload_n 2, 1) := by decide +kernel
theorem dL_law_248 : decode cL_law 248 = .ok (.invokevirtual 32, 3) := by decide +kernel
theorem dL_law_251 : decode cL_law 251 = .ok (.if_icmp .eq 909, 3) := by decide +kernel
theorem dL_law_254 : decode cL_law 254 = .ok (.iconst 0, 1) := by decide +kernel
theorem dL_law_255 : decode cL_law 255 = .ok (.ireturn, 1) := by decide +kernel
theorem dL_law_256 : decode cL_law 256 = .ok (.aload_n 1, 1) := by decide +kernel
theorem dL_law_257 : decode cL_law 257 = .ok (.aload_n 0, 1) := by decide +kernel
theorem dL_law_258 : decode cL_law 258 = .ok (.iload_n 3, 1) := by decide +kernel
theorem dL_law_259 : decode cL_law 259 = .ok (.iconst 1, 1) := by decide +kernel
theorem dL_law_260 : decode cL_law 260 = .ok (.iadd, 1) := by decide +kernel
theorem dL_law_261 : decode cL_law 261 = .ok (.iaload, 1) := by decide +kernel
theorem dL_law_262 : decode cL_law 262 = .ok (.aload_n 0, 1) := by decide +kernel
theorem dL_law_263 : decode cL_law 263 = .ok (.iload_n 3, 1) := by decide +kernel
theorem dL_law_264 : decode cL_law 264 = .ok (.iconst 2, 1) := by decide +kernel
theorem dL_law_265 : decode cL_law 265 = .ok (.iadd, 1) := by decide +kernel
theorem dL_law_266 : decode cL_law 266 = .ok (.iaload, 1) := by decide +kernel
theorem dL_law_267 : decode cL_law 267 = .ok (.invokevirtual 33, 3) := by decide +kernel
theorem dL_law_270 : decode cL_law 270 = .ok (.aload_n 2, 1) := by decide +kernel
theorem dL_law_271 : decode cL_law 271 = .ok (.aload_n 0, 1) := by decide +kernel
theorem dL_law_272 : decode cL_law 272 = .ok (.iload_n 3, 1) := by decide +kernel
theorem dL_law_273 : decode cL_law 273 = .ok (.iconst 1, 1) := by decide +kernel
theorem dL_law_274 : decode cL_law 274 = .ok (.iadd, 1) := by decide +kernel
theorem dL_law_275 : decode cL_law 275 = .ok (.iaload, 1) := by decide +kernel
theorem dL_law_276 : decode cL_law 276 = .ok (.aload_n 0, 1) := by decide +kernel
theorem dL_law_277 : decode cL_law 277 = .ok (.iload_n 3, 1) := by decide +kernel
theorem dL_law_278 : decode cL_law 278 = .ok (.iconst 2, 1) := by decide +kernel
theorem dL_law_279 : decode cL_law 279 = .ok (.iadd, 1) := by decide +kernel
theorem dL_law_280 : decode cL_law 280 = .ok (.iaload, 1) := by decide +kernel
theorem dL_law_281 : decode cL_law 281 = .ok (.invokevirtual 37, 3) := by decide +kernel
theorem dL_law_284 : decode cL_law 284 = .ok (.if_icmp .eq 876, 3) := by decide +kernel
theorem dL_law_287 : decode cL_law 287 = .ok (.iconst 0, 1) := by decide +kernel
theorem dL_law_288 : decode cL_law 288 = .ok (.ireturn, 1) := by decide +kernel
theorem dL_law_289 : decode cL_law 289 = .ok (.aload_n 1, 1) := by decide +kernel
theorem dL_law_290 : decode cL_law 290 = .ok (.aload_n 0, 1) := by decide +kernel
theorem dL_law_291 : decode cL_law 291 = .ok (.iload_n 3, 1) := by decide +kernel
theorem dL_law_292 : decode cL_law 292 = .ok (.iconst 1, 1) := by decide +kernel
theorem dL_law_293 : decode cL_law 293 = .ok (.iadd, 1) := by decide +kernel
theorem dL_law_294 : decode cL_law 294 = .ok (.iaload, 1) := by decide +kernel
theorem dL_law_295 : decode cL_law 295 = .ok (.aload_n 0, 1) := by decide +kernel
theorem dL_law_296 : decode cL_law 296 = .ok (.iload_n 3, 1) := by decide +kernel
theorem dL_law_297 : decode cL_law 297 = .ok (.iconst 2, 1) := by decide +kernel
theorem dL_law_298 : decode cL_law 298 = .ok (.iadd, 1) := by decide +kernel
theorem dL_law_299 : decode cL_law 299 = .ok (.iaload, 1) := by decide +kernel
theorem dL_law_300 : decode cL_law 300 = .ok (.aload_n 0, 1) := by decide +kernel
theorem dL_law_301 : decode cL_law 301 = .ok (.iload_n 3, 1) := by decide +kernel
theorem dL_law_302 : decode cL_law 302 = .ok (.iconst 3, 1) := by decide +kernel
theorem dL_law_303 : decode cL_law 303 = .ok (.iadd, 1) := by decide +kernel
theorem dL_law_304 : decode cL_law 304 = .ok (.iaload, 1) := by decide +kernel
theorem dL_law_305 : decode cL_law 305 = .ok (.aload_n 0, 1) := by decide +kernel
theorem dL_law_306 : decode cL_law 306 = .ok (.iload_n 3, 1) := by decide +kernel
theorem dL_law_307 : decode cL_law 307 = .ok (.iconst 4, 1) := by decide +kernel
theorem dL_law_308 : decode cL_law 308 = .ok (.iadd, 1) := by decide +kernel
theorem dL_law_309 : decode cL_law 309 = .ok (.iaload, 1) := by decide +kernel
theorem dL_law_310 : decode cL_law 310 = .ok (.aload_n 0, 1) := by decide +kernel
theorem dL_law_311 : decode cL_law 311 = .ok (.iload_n 3, 1) := by decide +kernel
theorem dL_law_312 : decode cL_law 312 = .ok (.iconst 5, 1) := by decide +kernel
theorem dL_law_313 : decode cL_law 313 = .ok (.iadd, 1) := by decide +kernel
theorem dL_law_314 : decode cL_law 314 = .ok (.iaload, 1) := by decide +kernel
theorem dL_law_315 : decode cL_law 315 = .ok (.aload_n 0, 1) := by decide +kernel
theorem dL_law_316 : decode cL_law 316 = .ok (.iload_n 3, 1) := by decide +kernel
theorem dL_law_317 : decode cL_law 317 = .ok (.bipush 6, 2) := by decide +kernel
theorem dL_law_319 : decode cL_law 319 = .ok (.iadd, 1) := by decide +kernel
theorem dL_law_320 : decode cL_law 320 = .ok (.iaload, 1) := by decide +kernel
theorem dL_law_321 : decode cL_law 321 = .ok (.invokevirtual 38, 3) := by decide +kernel
theorem dL_law_324 : decode cL_law 324 = .ok (.aload_n 2, 1) := by decide +kernel
theorem dL_law_325 : decode cL_law 325 = .ok (.aload_n 0, 1) := by decide +kernel
theorem dL_law_326 : decode cL_law 326 = .ok (.iload_n 3, 1) := by decide +kernel
theorem dL_law_327 : decode cL_law 327 = .ok (.iconst 1, 1) := by decide +kernel
theorem dL_law_328 : decode cL_law 328 = .ok (.iadd, 1) := by decide +kernel
theorem dL_law_329 : decode cL_law 329 = .ok (.iaload, 1) := by decide +kernel
theorem dL_law_330 : decode cL_law 330 = .ok (.aload_n 0, 1) := by decide +kernel
theorem dL_law_331 : decode cL_law 331 = .ok (.iload_n 3, 1) := by decide +kernel
theorem dL_law_332 : decode cL_law 332 = .ok (.iconst 2, 1) := by decide +kernel
theorem dL_law_333 : decode cL_law 333 = .ok (.iadd, 1) := by decide +kernel
theorem dL_law_334 : decode cL_law 334 = .ok (.iaload, 1) := by decide +kernel
theorem dL_law_335 : decode cL_law 335 = .ok (.aload_n 0, 1) := by decide +kernel
theorem dL_law_336 : decode cL_law 336 = .ok (.iload_n 3, 1) := by decide +kernel
theorem dL_law_337 : decode cL_law 337 = .ok (.iconst 3, 1) := by decide +kernel
theorem dL_law_338 : decode cL_law 338 = .ok (.iadd, 1) := by decide +kernel
theorem dL_law_339 : decode cL_law 339 = .ok (.iaload, 1) := by decide +kernel
theorem dL_law_340 : decode cL_law 340 = .ok (.aload_n 0, 1) := by decide +kernel
theorem dL_law_341 : decode cL_law 341 = .ok (.iload_n 3, 1) := by decide +kernel
theorem dL_law_342 : decode cL_law 342 = .ok (.iconst 4, 1) := by decide +kernel
theorem dL_law_343 : decode cL_law 343 = .ok (.iadd, 1) := by decide +kernel
theorem dL_law_344 : decode cL_law 344 = .ok (.iaload, 1) := by decide +kernel
theorem dL_law_345 : decode cL_law 345 = .ok (.aload_n 0, 1) := by decide +kernel
theorem dL_law_346 : decode cL_law 346 = .ok (.iload_n 3, 1) := by decide +kernel
theorem dL_law_347 : decode cL_law 347 = .ok (.iconst 5, 1) := by decide +kernel
theorem dL_law_348 : decode cL_law 348 = .ok (.iadd, 1) := by decide +kernel
theorem dL_law_349 : decode cL_law 349 = .ok (.iaload, 1) := by decide +kernel
theorem dL_law_350 : decode cL_law 350 = .ok (.aload_n 0, 1) := by decide +kernel
theorem dL_law_351 : decode cL_law 351 = .ok (.iload_n 3, 1) := by decide +kernel
theorem dL_law_352 : decode cL_law 352 = .ok (.bipush 6, 2) := by decide +kernel
theorem dL_law_354 : decode cL_law 354 = .ok (.iadd, 1) := by decide +kernel
theorem dL_law_355 : decode cL_law 355 = .ok (.iaload, 1) := by decide +kernel
theorem dL_law_356 : decode cL_law 356 = .ok (.invokevirtual 42, 3) := by decide +kernel
theorem dL_law_359 : decode cL_law 359 = .ok (.if_icmp .eq 801, 3) := by decide +kernel
theorem dL_law_362 : decode cL_law 362 = .ok (.iconst 0, 1) := by decide +kernel
theorem dL_law_363 : decode cL_law 363 = .ok (.ireturn, 1) := by decide +kernel
theorem dL_law_364 : decode cL_law 364 = .ok (.aload_n 1, 1) := by decide +kernel
theorem dL_law_365 : decode cL_law 365 = .ok (.aload_n 0, 1) := by decide +kernel
theorem dL_law_366 : decode cL_law 366 = .ok (.iload_n 3, 1) := by decide +kernel
theorem dL_law_367 : decode cL_law 367 = .ok (.iconst 1, 1) := by decide +kernel
theorem dL_law_368 : decode cL_law 368 = .ok (.iadd, 1) := by decide +kernel
theorem dL_law_369 : decode cL_law 369 = .ok (.iaload, 1) := by decide +kernel
theorem dL_law_370 : decode cL_law 370 = .ok (.aload_n 0, 1) := by decide +kernel
theorem dL_law_371 : decode cL_law 371 = .ok (.iload_n 3, 1) := by decide +kernel
theorem dL_law_372 : decode cL_law 372 = .ok (.iconst 2, 1) := by decide +kernel
theorem dL_law_373 : decode cL_law 373 = .ok (.iadd, 1) := by decide +kernel
theorem dL_law_374 : decode cL_law 374 = .ok (.iaload, 1) := by decide +kernel
theorem dL_law_375 : decode cL_law 375 = .ok (.invokevirtual 43, 3) := by decide +kernel
theorem dL_law_378 : decode cL_law 378 = .ok (.aload_n 2, 1) := by decide +kernel
theorem dL_law_379 : decode cL_law 379 = .ok (.aload_n 0, 1) := by decide +kernel
theorem dL_law_380 : decode cL_law 380 = .ok (.iload_n 3, 1) := by decide +kernel
theorem dL_law_381 : decode cL_law 381 = .ok (.iconst 1, 1) := by decide +kernel
theorem dL_law_382 : decode cL_law 382 = .ok (.iadd, 1) := by decide +kernel
theorem dL_law_383 : decode cL_law 383 = .ok (.iaload, 1) := by decide +kernel
theorem dL_law_384 : decode cL_law 384 = .ok (.aload_n 0, 1) := by decide +kernel
theorem dL_law_385 : decode cL_law 385 = .ok (.iload_n 3, 1) := by decide +kernel
theorem dL_law_386 : decode cL_law 386 = .ok (.iconst 2, 1) := by decide +kernel
theorem dL_law_387 : decode cL_law 387 = .ok (.iadd, 1) := by decide +kernel
theorem dL_law_388 : decode cL_law 388 = .ok (.iaload, 1) := by decide +kernel
theorem dL_law_389 : decode cL_law 389 = .ok (.invokevirtual 46, 3) := by decide +kernel
theorem dL_law_392 : decode cL_law 392 = .ok (.if_icmp .eq 768, 3) := by decide +kernel
theorem dL_law_395 : decode cL_law 395 = .ok (.iconst 0, 1) := by decide +kernel
theorem dL_law_396 : decode cL_law 396 = .ok (.ireturn, 1) := by decide +kernel
theorem dL_law_397 : decode cL_law 397 = .ok (.aload_n 1, 1) := by decide +kernel
theorem dL_law_398 : decode cL_law 398 = .ok (.aload_n 0, 1) := by decide +kernel
theorem dL_law_399 : decode cL_law 399 = .ok (.iload_n 3, 1) := by decide +kernel
theorem dL_law_400 : decode cL_law 400 = .ok (.iconst 1, 1) := by decide +kernel
theorem dL_law_401 : decode cL_law 401 = .ok (.iadd, 1) := by decide +kernel
theorem dL_law_402 : decode cL_law 402 = .ok (.iaload, 1) := by decide +kernel
theorem dL_law_403 : decode cL_law 403 = .ok (.aload_n 0, 1) := by decide +kernel
theorem dL_law_404 : decode cL_law 404 = .ok (.iload_n 3, 1) := by decide +kernel
theorem dL_law_405 : decode cL_law 405 = .ok (.iconst 2, 1) := by decide +kernel
theorem dL_law_406 : decode cL_law 406 = .ok (.iadd, 1) := by decide +kernel
theorem dL_law_407 : decode cL_law 407 = .ok (.iaload, 1) := by decide +kernel
theorem dL_law_408 : decode cL_law 408 = .ok (.invokevirtual 47, 3) := by decide +kernel
theorem dL_law_411 : decode cL_law 411 = .ok (.aload_n 2, 1) := by decide +kernel
theorem dL_law_412 : decode cL_law 412 = .ok (.aload_n 0, 1) := by decide +kernel
theorem dL_law_413 : decode cL_law 413 = .ok (.iload_n 3, 1) := by decide +kernel
theorem dL_law_414 : decode cL_law 414 = .ok (.iconst 1, 1) := by decide +kernel
theorem dL_law_415 : decode cL_law 415 = .ok (.iadd, 1) := by decide +kernel
theorem dL_law_416 : decode cL_law 416 = .ok (.iaload, 1) := by decide +kernel
theorem dL_law_417 : decode cL_law 417 = .ok (.aload_n 0, 1) := by decide +kernel
theorem dL_law_418 : decode cL_law 418 = .ok (.iload_n 3, 1) := by decide +kernel
theorem dL_law_419 : decode cL_law 419 = .ok (.iconst 2, 1) := by decide +kernel
theorem dL_law_420 : decode cL_law 420 = .ok (.iadd, 1) := by decide +kernel
theorem dL_law_421 : decode cL_law 421 = .ok (.iaload, 1) := by decide +kernel
theorem dL_law_422 : decode cL_law 422 = .ok (.invokevirtual 50, 3) := by decide +kernel
theorem dL_law_425 : decode cL_law 425 = .ok (.if_icmp .eq 735, 3) := by decide +kernel
theorem dL_law_428 : decode cL_law 428 = .ok (.iconst 0, 1) := by decide +kernel
theorem dL_law_429 : decode cL_law 429 = .ok (.ireturn, 1) := by decide +kernel
theorem dL_law_430 : decode cL_law 430 = .ok (.aload_n 1, 1) := by decide +kernel
theorem dL_law_431 : decode cL_law 431 = .ok (.aload_n 0, 1) := by decide +kernel
theorem dL_law_432 : decode cL_law 432 = .ok (.iload_n 3, 1) := by decide +kernel
theorem dL_law_433 : decode cL_law 433 = .ok (.iconst 1, 1) := by decide +kernel
theorem dL_law_434 : decode cL_law 434 = .ok (.iadd, 1) := by decide +kernel
theorem dL_law_435 : decode cL_law 435 = .ok (.iaload, 1) := by decide +kernel
theorem dL_law_436 : decode cL_law 436 = .ok (.aload_n 0, 1) := by decide +kernel
theorem dL_law_437 : decode cL_law 437 = .ok (.iload_n 3, 1) := by decide +kernel
theorem dL_law_438 : decode cL_law 438 = .ok (.iconst 2, 1) := by decide +kernel
theorem dL_law_439 : decode cL_law 439 = .ok (.iadd, 1) := by decide +kernel
theorem dL_law_440 : decode cL_law 440 = .ok (.iaload, 1) := by decide +kernel
theorem dL_law_441 : decode cL_law 441 = .ok (.invokevirtual 51, 3) := by decide +kernel
theorem dL_law_444 : decode cL_law 444 = .ok (.aload_n 2, 1) := by decide +kernel
theorem dL_law_445 : decode cL_law 445 = .ok (.aload_n 0, 1) := by decide +kernel
theorem dL_law_446 : decode cL_law 446 = .ok (.iload_n 3, 1) := by decide +kernel
theorem dL_law_447 : decode cL_law 447 = .ok (.iconst 1, 1) := by decide +kernel
theorem dL_law_448 : decode cL_law 448 = .ok (.iadd, 1) := by decide +kernel
theorem dL_law_449 : decode cL_law 449 = .ok (.iaload, 1) := by decide +kernel
theorem dL_law_450 : decode cL_law 450 = .ok (.aload_n 0, 1) := by decide +kernel
theorem dL_law_451 : decode cL_law 451 = .ok (.iload_n 3, 1) := by decide +kernel
theorem dL_law_452 : decode cL_law 452 = .ok (.iconst 2, 1) := by decide +kernel
theorem dL_law_453 : decode cL_law 453 = .ok (.iadd, 1) := by decide +kernel
theorem dL_law_454 : decode cL_law 454 = .ok (.iaload, 1) := by decide +kernel
theorem dL_law_455 : decode cL_law 455 = .ok (.invokevirtual 54, 3) := by decide +kernel
theorem dL_law_458 : decode cL_law 458 = .ok (.if_icmp .eq 702, 3) := by decide +kernel
theorem dL_law_461 : decode cL_law 461 = .ok (.iconst 0, 1) := by decide +kernel
theorem dL_law_462 : decode cL_law 462 = .ok (.ireturn, 1) := by decide +kernel
theorem dL_law_463 : decode cL_law 463 = .ok (.aload_n 1, 1) := by decide +kernel
theorem dL_law_464 : decode cL_law 464 = .ok (.aload_n 0, 1) := by decide +kernel
theorem dL_law_465 : decode cL_law 465 = .ok (.iload_n 3, 1) := by decide +kernel
theorem dL_law_466 : decode cL_law 466 = .ok (.iconst 1, 1) := by decide +kernel
theorem dL_law_467 : decode cL_law 467 = .ok (.iadd, 1) := by decide +kernel
theorem dL_law_468 : decode cL_law 468 = .ok (.iaload, 1) := by decide +kernel
theorem dL_law_469 : decode cL_law 469 = .ok (.aload_n 0, 1) := by decide +kernel
theorem dL_law_470 : decode cL_law 470 = .ok (.iload_n 3, 1) := by decide +kernel
theorem dL_law_471 : decode cL_law 471 = .ok (.iconst 2, 1) := by decide +kernel
theorem dL_law_472 : decode cL_law 472 = .ok (.iadd, 1) := by decide +kernel
theorem dL_law_473 : decode cL_law 473 = .ok (.iaload, 1) := by decide +kernel
theorem dL_law_474 : decode cL_law 474 = .ok (.invokevirtual 55, 3) := by decide +kernel
theorem dL_law_477 : decode cL_law 477 = .ok (.aload_n 2, 1) := by decide +kernel
theorem dL_law_478 : decode cL_law 478 = .ok (.aload_n 0, 1) := by decide +kernel
theorem dL_law_479 : decode cL_law 479 = .ok (.iload_n 3, 1) := by decide +kernel
theorem dL_law_480 : decode cL_law 480 = .ok (.iconst 1, 1) := by decide +kernel
theorem dL_law_481 : decode cL_law 481 = .ok (.iadd, 1) := by decide +kernel
theorem dL_law_482 : decode cL_law 482 = .ok (.iaload, 1) := by decide +kernel
theorem dL_law_483 : decode cL_law 483 = .ok (.aload_n 0, 1) := by decide +kernel
theorem dL_law_484 : decode cL_law 484 = .ok (.iload_n 3, 1) := by decide +kernel
theorem dL_law_485 : decode cL_law 485 = .ok (.iconst 2, 1) := by decide +kernel
theorem dL_law_486 : decode cL_law 486 = .ok (.iadd, 1) := by decide +kernel
theorem dL_law_487 : decode cL_law 487 = .ok (.iaload, 1) := by decide +kernel
theorem dL_law_488 : decode cL_law 488 = .ok (.invokevirtual 58, 3) := by decide +kernel
theorem dL_law_491 : decode cL_law 491 = .ok (.if_icmp .eq 669, 3) := by decide +kernel
theorem dL_law_494 : decode cL_law 494 = .ok (.iconst 0, 1) := by decide +kernel
theorem dL_law_495 : decode cL_law 495 = .ok (.ireturn, 1) := by decide +kernel
theorem dL_law_496 : decode cL_law 496 = .ok (.aload_n 1, 1) := by decide +kernel
theorem dL_law_497 : decode cL_law 497 = .ok (.aload_n 0, 1) := by decide +kernel
theorem dL_law_498 : decode cL_law 498 = .ok (.iload_n 3, 1) := by decide +kernel
theorem dL_law_499 : decode cL_law 499 = .ok (.iconst 1, 1) := by decide +kernel
theorem dL_law_500 : decode cL_law 500 = .ok (.iadd, 1) := by decide +kernel
theorem dL_law_501 : decode cL_law 501 = .ok (.iaload, 1) := by decide +kernel
theorem dL_law_502 : decode cL_law 502 = .ok (.aload_n 0, 1) := by decide +kernel
theorem dL_law_503 : decode cL_law 503 = .ok (.iload_n 3, 1) := by decide +kernel
theorem dL_law_504 : decode cL_law 504 = .ok (.iconst 2, 1) := by decide +kernel
theorem dL_law_505 : decode cL_law 505 = .ok (.iadd, 1) := by decide +kernel
theorem dL_law_506 : decode cL_law 506 = .ok (.iaload, 1) := by decide +kernel
theorem dL_law_507 : decode cL_law 507 = .ok (.invokevirtual 59, 3) := by decide +kernel
theorem dL_law_510 : decode cL_law 510 = .ok (.aload_n 2, 1) := by decide +kernel
theorem dL_law_511 : decode cL_law 511 = .ok (.aload_n 0, 1) := by decide +kernel
theorem dL_law_512 : decode cL_law 512 = .ok (.iload_n 3, 1) := by decide +kernel
theorem dL_law_513 : decode cL_law 513 = .ok (.iconst 1, 1) := by decide +kernel
theorem dL_law_514 : decode cL_law 514 = .ok (.iadd, 1) := by decide +kernel
theorem dL_law_515 : decode cL_law 515 = .ok (.iaload, 1) := by decide +kernel
theorem dL_law_516 : decode cL_law 516 = .ok (.aload_n 0, 1) := by decide +kernel
theorem dL_law_517 : decode cL_law 517 = .ok (.iload_n 3, 1) := by decide +kernel
theorem dL_law_518 : decode cL_law 518 = .ok (.iconst 2, 1) := by decide +kernel
theorem dL_law_519 : decode cL_law 519 = .ok (.iadd, 1) := by decide +kernel
theorem dL_law_520 : decode cL_law 520 = .ok (.iaload, 1) := by decide +kernel
theorem dL_law_521 : decode cL_law 521 = .ok (.invokevirtual 62, 3) := by decide +kernel
theorem dL_law_524 : decode cL_law 524 = .ok (.if_icmp .eq 636, 3) := by decide +kernel
theorem dL_law_527 : decode cL_law 527 = .ok (.iconst 0, 1) := by decide +kernel
theorem dL_law_528 : decode cL_law 528 = .ok (.ireturn, 1) := by decide +kernel
theorem dL_law_529 : decode cL_law 529 = .ok (.aload_n 1, 1) := by decide +kernel
theorem dL_law_530 : decode cL_law 530 = .ok (.aload_n 0, 1) := by decide +kernel
theorem dL_law_531 : decode cL_law 531 = .ok (.iload_n 3, 1) := by decide +kernel
theorem dL_law_532 : decode cL_law 532 = .ok (.iconst 1, 1) := by decide +kernel
theorem dL_law_533 : decode cL_law 533 = .ok (.iadd, 1) := by decide +kernel
theorem dL_law_534 : decode cL_law 534 = .ok (.iaload, 1) := by decide +kernel
theorem dL_law_535 : decode cL_law 535 = .ok (.invokevirtual 63, 3) := by decide +kernel
theorem dL_law_538 : decode cL_law 538 = .ok (.aload_n 2, 1) := by decide +kernel
theorem dL_law_539 : decode cL_law 539 = .ok (.aload_n 0, 1) := by decide +kernel
theorem dL_law_540 : decode cL_law 540 = .ok (.iload_n 3, 1) := by decide +kernel
theorem dL_law_541 : decode cL_law 541 = .ok (.iconst 1, 1) := by decide +kernel
theorem dL_law_542 : decode cL_law 542 = .ok (.iadd, 1) := by decide +kernel
theorem dL_law_543 : decode cL_law 543 = .ok (.iaload, 1) := by decide +kernel
theorem dL_law_544 : decode cL_law 544 = .ok (.invokevirtual 67, 3) := by decide +kernel
theorem dL_law_547 : decode cL_law 547 = .ok (.if_icmp .eq 613, 3) := by decide +kernel
theorem dL_law_550 : decode cL_law 550 = .ok (.iconst 0, 1) := by decide +kernel
theorem dL_law_551 : decode cL_law 551 = .ok (.ireturn, 1) := by decide +kernel
theorem dL_law_552 : decode cL_law 552 = .ok (.aload_n 1, 1) := by decide +kernel
theorem dL_law_553 : decode cL_law 553 = .ok (.aload_n 0, 1) := by decide +kernel
theorem dL_law_554 : decode cL_law 554 = .ok (.iload_n 3, 1) := by decide +kernel
theorem dL_law_555 : decode cL_law 555 = .ok (.iconst 1, 1) := by decide +kernel
theorem dL_law_556 : decode cL_law 556 = .ok (.iadd, 1) := by decide +kernel
theorem dL_law_557 : decode cL_law 557 = .ok (.iaload, 1) := by decide +kernel
theorem dL_law_558 : decode cL_law 558 = .ok (.ifCond .eq 7, 3) := by decide +kernel
theorem dL_law_561 : decode cL_law 561 = .ok (.iconst 1, 1) := by decide +kernel
theorem dL_law_562 : decode cL_law 562 = .ok (.goto 4, 3) := by decide +kernel
theorem dL_law_565 : decode cL_law 565 = .ok (.iconst 0, 1) := by decide +kernel
theorem dL_law_566 : decode cL_law 566 = .ok (.invokevirtual 68, 3) := by decide +kernel
theorem dL_law_569 : decode cL_law 569 = .ok (.aload_n 2, 1) := by decide +kernel
theorem dL_law_570 : decode cL_law 570 = .ok (.aload_n 0, 1) := by decide +kernel
theorem dL_law_571 : decode cL_law 571 = .ok (.iload_n 3, 1) := by decide +kernel
theorem dL_law_572 : decode cL_law 572 = .ok (.iconst 1, 1) := by decide +kernel
theorem dL_law_573 : decode cL_law 573 = .ok (.iadd, 1) := by decide +kernel
theorem dL_law_574 : decode cL_law 574 = .ok (.iaload, 1) := by decide +kernel
theorem dL_law_575 : decode cL_law 575 = .ok (.ifCond .eq 7, 3) := by decide +kernel
theorem dL_law_578 : decode cL_law 578 = .ok (.iconst 1, 1) := by decide +kernel
theorem dL_law_579 : decode cL_law 579 = .ok (.goto 4, 3) := by decide +kernel
theorem dL_law_582 : decode cL_law 582 = .ok (.iconst 0, 1) := by decide +kernel
theorem dL_law_583 : decode cL_law 583 = .ok (.invokevirtual 72, 3) := by decide +kernel
theorem dL_law_586 : decode cL_law 586 = .ok (.if_icmp .eq 574, 3) := by decide +kernel
theorem dL_law_589 : decode cL_law 589 = .ok (.iconst 0, 1) := by decide +kernel
theorem dL_law_590 : decode cL_law 590 = .ok (.ireturn, 1) := by decide +kernel
theorem dL_law_591 : decode cL_law 591 = .ok (.aload_n 1, 1) := by decide +kernel
theorem dL_law_592 : decode cL_law 592 = .ok (.aload_n 0, 1) := by decide +kernel
theorem dL_law_593 : decode cL_law 593 = .ok (.iload_n 3, 1) := by decide +kernel
theorem dL_law_594 : decode cL_law 594 = .ok (.iconst 1, 1) := by decide +kernel
theorem dL_law_595 : decode cL_law 595 = .ok (.iadd, 1) := by decide +kernel
theorem dL_law_596 : decode cL_law 596 = .ok (.iaload, 1) := by decide +kernel
theorem dL_law_597 : decode cL_law 597 = .ok (.aload_n 0, 1) := by decide +kernel
theorem dL_law_598 : decode cL_law 598 = .ok (.iload_n 3, 1) := by decide +kernel
theorem dL_law_599 : decode cL_law 599 = .ok (.iconst 2, 1) := by decide +kernel
theorem dL_law_600 : decode cL_law 600 = .ok (.iadd, 1) := by decide +kernel
theorem dL_law_601 : decode cL_law 601 = .ok (.iaload, 1) := by decide +kernel
theorem dL_law_602 : decode cL_law 602 = .ok (.aload_n 0, 1) := by decide +kernel
theorem dL_law_603 : decode cL_law 603 = .ok (.iload_n 3, 1) := by decide +kernel
theorem dL_law_604 : decode cL_law 604 = .ok (.iconst 3, 1) := by decide +kernel
theorem dL_law_605 : decode cL_law 605 = .ok (.iadd, 1) := by decide +kernel
theorem dL_law_606 : decode cL_law 606 = .ok (.iaload, 1) := by decide +kernel
theorem dL_law_607 : decode cL_law 607 = .ok (.aload_n 0, 1) := by decide +kernel
theorem dL_law_608 : decode cL_law 608 = .ok (.iload_n 3, 1) := by decide +kernel
theorem dL_law_609 : decode cL_law 609 = .ok (.iconst 4, 1) := by decide +kernel
theorem dL_law_610 : decode cL_law 610 = .ok (.iadd, 1) := by decide +kernel
theorem dL_law_611 : decode cL_law 611 = .ok (.iaload, 1) := by decide +kernel
theorem dL_law_612 : decode cL_law 612 = .ok (.invokevirtual 73, 3) := by decide +kernel
theorem dL_law_615 : decode cL_law 615 = .ok (.aload_n 2, 1) := by decide +kernel
theorem dL_law_616 : decode cL_law 616 = .ok (.aload_n 0, 1) := by decide +kernel
theorem dL_law_617 : decode cL_law 617 = .ok (.iload_n 3, 1) := by decide +kernel
theorem dL_law_618 : decode cL_law 618 = .ok (.iconst 1, 1) := by decide +kernel
theorem dL_law_619 : decode cL_law 619 = .ok (.iadd, 1) := by decide +kernel
theorem dL_law_620 : decode cL_law 620 = .ok (.iaload, 1) := by decide +kernel
theorem dL_law_621 : decode cL_law 621 = .ok (.aload_n 0, 1) := by decide +kernel
theorem dL_law_622 : decode cL_law 622 = .ok (.iload_n 3, 1) := by decide +kernel
theorem dL_law_623 : decode cL_law 623 = .ok (.iconst 2, 1) := by decide +kernel
theorem dL_law_624 : decode cL_law 624 = .ok (.iadd, 1) := by decide +kernel
theorem dL_law_625 : decode cL_law 625 = .ok (.iaload, 1) := by decide +kernel
theorem dL_law_626 : decode cL_law 626 = .ok (.aload_n 0, 1) := by decide +kernel
theorem dL_law_627 : decode cL_law 627 = .ok (.iload_n 3, 1) := by decide +kernel
theorem dL_law_628 : decode cL_law 628 = .ok (.iconst 3, 1) := by decide +kernel
theorem dL_law_629 : decode cL_law 629 = .ok (.iadd, 1) := by decide +kernel
theorem dL_law_630 : decode cL_law 630 = .ok (.iaload, 1) := by decide +kernel
theorem dL_law_631 : decode cL_law 631 = .ok (.aload_n 0, 1) := by decide +kernel
theorem dL_law_632 : decode cL_law 632 = .ok (.iload_n 3, 1) := by decide +kernel
theorem dL_law_633 : decode cL_law 633 = .ok (.iconst 4, 1) := by decide +kernel
theorem dL_law_634 : decode cL_law 634 = .ok (.iadd, 1) := by decide +kernel
theorem dL_law_635 : decode cL_law 635 = .ok (.iaload, 1) := by decide +kernel
theorem dL_law_636 : decode cL_law 636 = .ok (.invokevirtual 77, 3) := by decide +kernel
theorem dL_law_639 : decode cL_law 639 = .ok (.if_icmp .eq 521, 3) := by decide +kernel
theorem dL_law_642 : decode cL_law 642 = .ok (.iconst 0, 1) := by decide +kernel
theorem dL_law_643 : decode cL_law 643 = .ok (.ireturn, 1) := by decide +kernel
theorem dL_law_644 : decode cL_law 644 = .ok (.aload_n 1, 1) := by decide +kernel
theorem dL_law_645 : decode cL_law 645 = .ok (.aload_n 0, 1) := by decide +kernel
theorem dL_law_646 : decode cL_law 646 = .ok (.iload_n 3, 1) := by decide +kernel
theorem dL_law_647 : decode cL_law 647 = .ok (.iconst 1, 1) := by decide +kernel
theorem dL_law_648 : decode cL_law 648 = .ok (.iadd, 1) := by decide +kernel
theorem dL_law_649 : decode cL_law 649 = .ok (.iaload, 1) := by decide +kernel
theorem dL_law_650 : decode cL_law 650 = .ok (.aload_n 0, 1) := by decide +kernel
theorem dL_law_651 : decode cL_law 651 = .ok (.iload_n 3, 1) := by decide +kernel
theorem dL_law_652 : decode cL_law 652 = .ok (.iconst 2, 1) := by decide +kernel
theorem dL_law_653 : decode cL_law 653 = .ok (.iadd, 1) := by decide +kernel
theorem dL_law_654 : decode cL_law 654 = .ok (.iaload, 1) := by decide +kernel
theorem dL_law_655 : decode cL_law 655 = .ok (.aload_n 0, 1) := by decide +kernel
theorem dL_law_656 : decode cL_law 656 = .ok (.iload_n 3, 1) := by decide +kernel
theorem dL_law_657 : decode cL_law 657 = .ok (.iconst 3, 1) := by decide +kernel
theorem dL_law_658 : decode cL_law 658 = .ok (.iadd, 1) := by decide +kernel
theorem dL_law_659 : decode cL_law 659 = .ok (.iaload, 1) := by decide +kernel
theorem dL_law_660 : decode cL_law 660 = .ok (.aload_n 0, 1) := by decide +kernel
theorem dL_law_661 : decode cL_law 661 = .ok (.iload_n 3, 1) := by decide +kernel
theorem dL_law_662 : decode cL_law 662 = .ok (.iconst 4, 1) := by decide +kernel
theorem dL_law_663 : decode cL_law 663 = .ok (.iadd, 1) := by decide +kernel
theorem dL_law_664 : decode cL_law 664 = .ok (.iaload, 1) := by decide +kernel
theorem dL_law_665 : decode cL_law 665 = .ok (.invokevirtual 78, 3) := by decide +kernel
theorem dL_law_668 : decode cL_law 668 = .ok (.aload_n 2, 1) := by decide +kernel
theorem dL_law_669 : decode cL_law 669 = .ok (.aload_n 0, 1) := by decide +kernel
theorem dL_law_670 : decode cL_law 670 = .ok (.iload_n 3, 1) := by decide +kernel
theorem dL_law_671 : decode cL_law 671 = .ok (.iconst 1, 1) := by decide +kernel
theorem dL_law_672 : decode cL_law 672 = .ok (.iadd, 1) := by decide +kernel
theorem dL_law_673 : decode cL_law 673 = .ok (.iaload, 1) := by decide +kernel
theorem dL_law_674 : decode cL_law 674 = .ok (.aload_n 0, 1) := by decide +kernel
theorem dL_law_675 : decode cL_law 675 = .ok (.iload_n 3, 1) := by decide +kernel
theorem dL_law_676 : decode cL_law 676 = .ok (.iconst 2, 1) := by decide +kernel
theorem dL_law_677 : decode cL_law 677 = .ok (.iadd, 1) := by decide +kernel
theorem dL_law_678 : decode cL_law 678 = .ok (.iaload, 1) := by decide +kernel
theorem dL_law_679 : decode cL_law 679 = .ok (.aload_n 0, 1) := by decide +kernel
theorem dL_law_680 : decode cL_law 680 = .ok (.iload_n 3, 1) := by decide +kernel
theorem dL_law_681 : decode cL_law 681 = .ok (.iconst 3, 1) := by decide +kernel
theorem dL_law_682 : decode cL_law 682 = .ok (.iadd, 1) := by decide +kernel
theorem dL_law_683 : decode cL_law 683 = .ok (.iaload, 1) := by decide +kernel
theorem dL_law_684 : decode cL_law 684 = .ok (.aload_n 0, 1) := by decide +kernel
theorem dL_law_685 : decode cL_law 685 = .ok (.iload_n 3, 1) := by decide +kernel
theorem dL_law_686 : decode cL_law 686 = .ok (.iconst 4, 1) := by decide +kernel
theorem dL_law_687 : decode cL_law 687 = .ok (.iadd, 1) := by decide +kernel
theorem dL_law_688 : decode cL_law 688 = .ok (.iaload, 1) := by decide +kernel
theorem dL_law_689 : decode cL_law 689 = .ok (.invokevirtual 81, 3) := by decide +kernel
theorem dL_law_692 : decode cL_law 692 = .ok (.if_icmp .eq 468, 3) := by decide +kernel
theorem dL_law_695 : decode cL_law 695 = .ok (.iconst 0, 1) := by decide +kernel
theorem dL_law_696 : decode cL_law 696 = .ok (.ireturn, 1) := by decide +kernel
theorem dL_law_697 : decode cL_law 697 = .ok (.aload_n 1, 1) := by decide +kernel
theorem dL_law_698 : decode cL_law 698 = .ok (.aload_n 0, 1) := by decide +kernel
theorem dL_law_699 : decode cL_law 699 = .ok (.iload_n 3, 1) := by decide +kernel
theorem dL_law_700 : decode cL_law 700 = .ok (.iconst 1, 1) := by decide +kernel
theorem dL_law_701 : decode cL_law 701 = .ok (.iadd, 1) := by decide +kernel
theorem dL_law_702 : decode cL_law 702 = .ok (.iaload, 1) := by decide +kernel
theorem dL_law_703 : decode cL_law 703 = .ok (.aload_n 0, 1) := by decide +kernel
theorem dL_law_704 : decode cL_law 704 = .ok (.iload_n 3, 1) := by decide +kernel
theorem dL_law_705 : decode cL_law 705 = .ok (.iconst 2, 1) := by decide +kernel
theorem dL_law_706 : decode cL_law 706 = .ok (.iadd, 1) := by decide +kernel
theorem dL_law_707 : decode cL_law 707 = .ok (.iaload, 1) := by decide +kernel
theorem dL_law_708 : decode cL_law 708 = .ok (.aload_n 0, 1) := by decide +kernel
theorem dL_law_709 : decode cL_law 709 = .ok (.iload_n 3, 1) := by decide +kernel
theorem dL_law_710 : decode cL_law 710 = .ok (.iconst 3, 1) := by decide +kernel
theorem dL_law_711 : decode cL_law 711 = .ok (.iadd, 1) := by decide +kernel
theorem dL_law_712 : decode cL_law 712 = .ok (.iaload, 1) := by decide +kernel
theorem dL_law_713 : decode cL_law 713 = .ok (.aload_n 0, 1) := by decide +kernel
theorem dL_law_714 : decode cL_law 714 = .ok (.iload_n 3, 1) := by decide +kernel
theorem dL_law_715 : decode cL_law 715 = .ok (.iconst 4, 1) := by decide +kernel
theorem dL_law_716 : decode cL_law 716 = .ok (.iadd, 1) := by decide +kernel
theorem dL_law_717 : decode cL_law 717 = .ok (.iaload, 1) := by decide +kernel
theorem dL_law_718 : decode cL_law 718 = .ok (.aload_n 0, 1) := by decide +kernel
theorem dL_law_719 : decode cL_law 719 = .ok (.iload_n 3, 1) := by decide +kernel
theorem dL_law_720 : decode cL_law 720 = .ok (.iconst 5, 1) := by decide +kernel
theorem dL_law_721 : decode cL_law 721 = .ok (.iadd, 1) := by decide +kernel
theorem dL_law_722 : decode cL_law 722 = .ok (.iaload, 1) := by decide +kernel
theorem dL_law_723 : decode cL_law 723 = .ok (.invokevirtual 82, 3) := by decide +kernel
theorem dL_law_726 : decode cL_law 726 = .ok (.aload_n 2, 1) := by decide +kernel
theorem dL_law_727 : decode cL_law 727 = .ok (.aload_n 0, 1) := by decide +kernel
theorem dL_law_728 : decode cL_law 728 = .ok (.iload_n 3, 1) := by decide +kernel
theorem dL_law_729 : decode cL_law 729 = .ok (.iconst 1, 1) := by decide +kernel
theorem dL_law_730 : decode cL_law 730 = .ok (.iadd, 1) := by decide +kernel
theorem dL_law_731 : decode cL_law 731 = .ok (.iaload, 1) := by decide +kernel
theorem dL_law_732 : decode cL_law 732 = .ok (.aload_n 0, 1) := by decide +kernel
theorem dL_law_733 : decode cL_law 733 = .ok (.iload_n 3, 1) := by decide +kernel
theorem dL_law_734 : decode cL_law 734 = .ok (.iconst 2, 1) := by decide +kernel
theorem dL_law_735 : decode cL_law 735 = .ok (.iadd, 1) := by decide +kernel
theorem dL_law_736 : decode cL_law 736 = .ok (.iaload, 1) := by decide +kernel
theorem dL_law_737 : decode cL_law 737 = .ok (.aload_n 0, 1) := by decide +kernel
theorem dL_law_738 : decode cL_law 738 = .ok (.iload_n 3, 1) := by decide +kernel
theorem dL_law_739 : decode cL_law 739 = .ok (.iconst 3, 1) := by decide +kernel
theorem dL_law_740 : decode cL_law 740 = .ok (.iadd, 1) := by decide +kernel
theorem dL_law_741 : decode cL_law 741 = .ok (.iaload, 1) := by decide +kernel
theorem dL_law_742 : decode cL_law 742 = .ok (.aload_n 0, 1) := by decide +kernel
theorem dL_law_743 : decode cL_law 743 = .ok (.iload_n 3, 1) := by decide +kernel
theorem dL_law_744 : decode cL_law 744 = .ok (.iconst 4, 1) := by decide +kernel
theorem dL_law_745 : decode cL_law 745 = .ok (.iadd, 1) := by decide +kernel
theorem dL_law_746 : decode cL_law 746 = .ok (.iaload, 1) := by decide +kernel
theorem dL_law_747 : decode cL_law 747 = .ok (.aload_n 0, 1) := by decide +kernel
theorem dL_law_748 : decode cL_law 748 = .ok (.iload_n 3, 1) := by decide +kernel
theorem dL_law_749 : decode cL_law 749 = .ok (.iconst 5, 1) := by decide +kernel
theorem dL_law_750 : decode cL_law 750 = .ok (.iadd, 1) := by decide +kernel
theorem dL_law_751 : decode cL_law 751 = .ok (.iaload, 1) := by decide +kernel
theorem dL_law_752 : decode cL_law 752 = .ok (.invokevirtual 86, 3) := by decide +kernel
theorem dL_law_755 : decode cL_law 755 = .ok (.if_icmp .eq 405, 3) := by decide +kernel
theorem dL_law_758 : decode cL_law 758 = .ok (.iconst 0, 1) := by decide +kernel
theorem dL_law_759 : decode cL_law 759 = .ok (.ireturn, 1) := by decide +kernel
theorem dL_law_760 : decode cL_law 760 = .ok (.aload_n 1, 1) := by decide +kernel
theorem dL_law_761 : decode cL_law 761 = .ok (.aload_n 0, 1) := by decide +kernel
theorem dL_law_762 : decode cL_law 762 = .ok (.iload_n 3, 1) := by decide +kernel
theorem dL_law_763 : decode cL_law 763 = .ok (.iconst 1, 1) := by decide +kernel
theorem dL_law_764 : decode cL_law 764 = .ok (.iadd, 1) := by decide +kernel
theorem dL_law_765 : decode cL_law 765 = .ok (.iaload, 1) := by decide +kernel
theorem dL_law_766 : decode cL_law 766 = .ok (.aload_n 0, 1) := by decide +kernel
theorem dL_law_767 : decode cL_law 767 = .ok (.iload_n 3, 1) := by decide +kernel
theorem dL_law_768 : decode cL_law 768 = .ok (.iconst 2, 1) := by decide +kernel
theorem dL_law_769 : decode cL_law 769 = .ok (.iadd, 1) := by decide +kernel
theorem dL_law_770 : decode cL_law 770 = .ok (.iaload, 1) := by decide +kernel
theorem dL_law_771 : decode cL_law 771 = .ok (.invokevirtual 87, 3) := by decide +kernel
theorem dL_law_774 : decode cL_law 774 = .ok (.aload_n 2, 1) := by decide +kernel
theorem dL_law_775 : decode cL_law 775 = .ok (.aload_n 0, 1) := by decide +kernel
theorem dL_law_776 : decode cL_law 776 = .ok (.iload_n 3, 1) := by decide +kernel
theorem dL_law_777 : decode cL_law 777 = .ok (.iconst 1, 1) := by decide +kernel
theorem dL_law_778 : decode cL_law 778 = .ok (.iadd, 1) := by decide +kernel
theorem dL_law_779 : decode cL_law 779 = .ok (.iaload, 1) := by decide +kernel
theorem dL_law_780 : decode cL_law 780 = .ok (.aload_n 0, 1) := by decide +kernel
theorem dL_law_781 : decode cL_law 781 = .ok (.iload_n 3, 1) := by decide +kernel
theorem dL_law_782 : decode cL_law 782 = .ok (.iconst 2, 1) := by decide +kernel
theorem dL_law_783 : decode cL_law 783 = .ok (.iadd, 1) := by decide +kernel
theorem dL_law_784 : decode cL_law 784 = .ok (.iaload, 1) := by decide +kernel
theorem dL_law_785 : decode cL_law 785 = .ok (.invokevirtual 90, 3) := by decide +kernel
theorem dL_law_788 : decode cL_law 788 = .ok (.if_icmp .eq 372, 3) := by decide +kernel
theorem dL_law_791 : decode cL_law 791 = .ok (.iconst 0, 1) := by decide +kernel
theorem dL_law_792 : decode cL_law 792 = .ok (.ireturn, 1) := by decide +kernel
theorem dL_law_793 : decode cL_law 793 = .ok (.aload_n 1, 1) := by decide +kernel
theorem dL_law_794 : decode cL_law 794 = .ok (.aload_n 0, 1) := by decide +kernel
theorem dL_law_795 : decode cL_law 795 = .ok (.iload_n 3, 1) := by decide +kernel
theorem dL_law_796 : decode cL_law 796 = .ok (.iconst 1, 1) := by decide +kernel
theorem dL_law_797 : decode cL_law 797 = .ok (.iadd, 1) := by decide +kernel
theorem dL_law_798 : decode cL_law 798 = .ok (.iaload, 1) := by decide +kernel
theorem dL_law_799 : decode cL_law 799 = .ok (.invokevirtual 91, 3) := by decide +kernel
theorem dL_law_802 : decode cL_law 802 = .ok (.aload_n 2, 1) := by decide +kernel
theorem dL_law_803 : decode cL_law 803 = .ok (.aload_n 0, 1) := by decide +kernel
theorem dL_law_804 : decode cL_law 804 = .ok (.iload_n 3, 1) := by decide +kernel
theorem dL_law_805 : decode cL_law 805 = .ok (.iconst 1, 1) := by decide +kernel
theorem dL_law_806 : decode cL_law 806 = .ok (.iadd, 1) := by decide +kernel
theorem dL_law_807 : decode cL_law 807 = .ok (.iaload, 1) := by decide +kernel
theorem dL_law_808 : decode cL_law 808 = .ok (.invokevirtual 94, 3) := by decide +kernel
theorem dL_law_811 : decode cL_law 811 = .ok (.if_icmp .eq 349, 3) := by decide +kernel
theorem dL_law_814 : decode cL_law 814 = .ok (.iconst 0, 1) := by decide +kernel
theorem dL_law_815 : decode cL_law 815 = .ok (.ireturn, 1) := by decide +kernel
theorem dL_law_816 : decode cL_law 816 = .ok (.aload_n 1, 1) := by decide +kernel
theorem dL_law_817 : decode cL_law 817 = .ok (.aload_n 0, 1) := by decide +kernel
theorem dL_law_818 : decode cL_law 818 = .ok (.iload_n 3, 1) := by decide +kernel
theorem dL_law_819 : decode cL_law 819 = .ok (.iconst 1, 1) := by decide +kernel
theorem dL_law_820 : decode cL_law 820 = .ok (.iadd, 1) := by decide +kernel
theorem dL_law_821 : decode cL_law 821 = .ok (.iaload, 1) := by decide +kernel
theorem dL_law_822 : decode cL_law 822 = .ok (.aload_n 0, 1) := by decide +kernel
theorem dL_law_823 : decode cL_law 823 = .ok (.iload_n 3, 1) := by decide +kernel
theorem dL_law_824 : decode cL_law 824 = .ok (.iconst 2, 1) := by decide +kernel
theorem dL_law_825 : decode cL_law 825 = .ok (.iadd, 1) := by decide +kernel
theorem dL_law_826 : decode cL_law 826 = .ok (.iaload, 1) := by decide +kernel
theorem dL_law_827 : decode cL_law 827 = .ok (.invokevirtual 95, 3) := by decide +kernel
theorem dL_law_830 : decode cL_law 830 = .ok (.aload_n 2, 1) := by decide +kernel
theorem dL_law_831 : decode cL_law 831 = .ok (.aload_n 0, 1) := by decide +kernel
theorem dL_law_832 : decode cL_law 832 = .ok (.iload_n 3, 1) := by decide +kernel
theorem dL_law_833 : decode cL_law 833 = .ok (.iconst 1, 1) := by decide +kernel
theorem dL_law_834 : decode cL_law 834 = .ok (.iadd, 1) := by decide +kernel
theorem dL_law_835 : decode cL_law 835 = .ok (.iaload, 1) := by decide +kernel
theorem dL_law_836 : decode cL_law 836 = .ok (.aload_n 0, 1) := by decide +kernel
theorem dL_law_837 : decode cL_law 837 = .ok (.iload_n 3, 1) := by decide +kernel
theorem dL_law_838 : decode cL_law 838 = .ok (.iconst 2, 1) := by decide +kernel
theorem dL_law_839 : decode cL_law 839 = .ok (.iadd, 1) := by decide +kernel
theorem dL_law_840 : decode cL_law 840 = .ok (.iaload, 1) := by decide +kernel
theorem dL_law_841 : decode cL_law 841 = .ok (.invokevirtual 98, 3) := by decide +kernel
theorem dL_law_844 : decode cL_law 844 = .ok (.if_icmp .eq 316, 3) := by decide +kernel
theorem dL_law_847 : decode cL_law 847 = .ok (.iconst 0, 1) := by decide +kernel
theorem dL_law_848 : decode cL_law 848 = .ok (.ireturn, 1) := by decide +kernel
theorem dL_law_849 : decode cL_law 849 = .ok (.aload_n 1, 1) := by decide +kernel
theorem dL_law_850 : decode cL_law 850 = .ok (.aload_n 0, 1) := by decide +kernel
theorem dL_law_851 : decode cL_law 851 = .ok (.iload_n 3, 1) := by decide +kernel
theorem dL_law_852 : decode cL_law 852 = .ok (.iconst 1, 1) := by decide +kernel
theorem dL_law_853 : decode cL_law 853 = .ok (.iadd, 1) := by decide +kernel
theorem dL_law_854 : decode cL_law 854 = .ok (.iaload, 1) := by decide +kernel
theorem dL_law_855 : decode cL_law 855 = .ok (.aload_n 0, 1) := by decide +kernel
theorem dL_law_856 : decode cL_law 856 = .ok (.iload_n 3, 1) := by decide +kernel
theorem dL_law_857 : decode cL_law 857 = .ok (.iconst 2, 1) := by decide +kernel
theorem dL_law_858 : decode cL_law 858 = .ok (.iadd, 1) := by decide +kernel
theorem dL_law_859 : decode cL_law 859 = .ok (.iaload, 1) := by decide +kernel
theorem dL_law_860 : decode cL_law 860 = .ok (.invokevirtual 99, 3) := by decide +kernel
theorem dL_law_863 : decode cL_law 863 = .ok (.aload_n 2, 1) := by decide +kernel
theorem dL_law_864 : decode cL_law 864 = .ok (.aload_n 0, 1) := by decide +kernel
theorem dL_law_865 : decode cL_law 865 = .ok (.iload_n 3, 1) := by decide +kernel
theorem dL_law_866 : decode cL_law 866 = .ok (.iconst 1, 1) := by decide +kernel
theorem dL_law_867 : decode cL_law 867 = .ok (.iadd, 1) := by decide +kernel
theorem dL_law_868 : decode cL_law 868 = .ok (.iaload, 1) := by decide +kernel
theorem dL_law_869 : decode cL_law 869 = .ok (.aload_n 0, 1) := by decide +kernel
theorem dL_law_870 : decode cL_law 870 = .ok (.iload_n 3, 1) := by decide +kernel
theorem dL_law_871 : decode cL_law 871 = .ok (.iconst 2, 1) := by decide +kernel
theorem dL_law_872 : decode cL_law 872 = .ok (.iadd, 1) := by decide +kernel
theorem dL_law_873 : decode cL_law 873 = .ok (.iaload, 1) := by decide +kernel
theorem dL_law_874 : decode cL_law 874 = .ok (.invokevirtual 102, 3) := by decide +kernel
theorem dL_law_877 : decode cL_law 877 = .ok (.if_icmp .eq 283, 3) := by decide +kernel
theorem dL_law_880 : decode cL_law 880 = .ok (.iconst 0, 1) := by decide +kernel
theorem dL_law_881 : decode cL_law 881 = .ok (.ireturn, 1) := by decide +kernel
theorem dL_law_882 : decode cL_law 882 = .ok (.aload_n 1, 1) := by decide +kernel
theorem dL_law_883 : decode cL_law 883 = .ok (.aload_n 0, 1) := by decide +kernel
theorem dL_law_884 : decode cL_law 884 = .ok (.iload_n 3, 1) := by decide +kernel
theorem dL_law_885 : decode cL_law 885 = .ok (.iconst 1, 1) := by decide +kernel
theorem dL_law_886 : decode cL_law 886 = .ok (.iadd, 1) := by decide +kernel
theorem dL_law_887 : decode cL_law 887 = .ok (.iaload, 1) := by decide +kernel
theorem dL_law_888 : decode cL_law 888 = .ok (.aload_n 0, 1) := by decide +kernel
theorem dL_law_889 : decode cL_law 889 = .ok (.iload_n 3, 1) := by decide +kernel
theorem dL_law_890 : decode cL_law 890 = .ok (.iconst 2, 1) := by decide +kernel
theorem dL_law_891 : decode cL_law 891 = .ok (.iadd, 1) := by decide +kernel
theorem dL_law_892 : decode cL_law 892 = .ok (.iaload, 1) := by decide +kernel
theorem dL_law_893 : decode cL_law 893 = .ok (.aload_n 0, 1) := by decide +kernel
theorem dL_law_894 : decode cL_law 894 = .ok (.iload_n 3, 1) := by decide +kernel
theorem dL_law_895 : decode cL_law 895 = .ok (.iconst 3, 1) := by decide +kernel
theorem dL_law_896 : decode cL_law 896 = .ok (.iadd, 1) := by decide +kernel
theorem dL_law_897 : decode cL_law 897 = .ok (.iaload, 1) := by decide +kernel
theorem dL_law_898 : decode cL_law 898 = .ok (.invokevirtual 103, 3) := by decide +kernel
theorem dL_law_901 : decode cL_law 901 = .ok (.aload_n 2, 1) := by decide +kernel
theorem dL_law_902 : decode cL_law 902 = .ok (.aload_n 0, 1) := by decide +kernel
theorem dL_law_903 : decode cL_law 903 = .ok (.iload_n 3, 1) := by decide +kernel
theorem dL_law_904 : decode cL_law 904 = .ok (.iconst 1, 1) := by decide +kernel
theorem dL_law_905 : decode cL_law 905 = .ok (.iadd, 1) := by decide +kernel
theorem dL_law_906 : decode cL_law 906 = .ok (.iaload, 1) := by decide +kernel
theorem dL_law_907 : decode cL_law 907 = .ok (.aload_n 0, 1) := by decide +kernel
theorem dL_law_908 : decode cL_law 908 = .ok (.iload_n 3, 1) := by decide +kernel
theorem dL_law_909 : decode cL_law 909 = .ok (.iconst 2, 1) := by decide +kernel
theorem dL_law_910 : decode cL_law 910 = .ok (.iadd, 1) := by decide +kernel
theorem dL_law_911 : decode cL_law 911 = .ok (.iaload, 1) := by decide +kernel
theorem dL_law_912 : decode cL_law 912 = .ok (.aload_n 0, 1) := by decide +kernel
theorem dL_law_913 : decode cL_law 913 = .ok (.iload_n 3, 1) := by decide +kernel
theorem dL_law_914 : decode cL_law 914 = .ok (.iconst 3, 1) := by decide +kernel
theorem dL_law_915 : decode cL_law 915 = .ok (.iadd, 1) := by decide +kernel
theorem dL_law_916 : decode cL_law 916 = .ok (.iaload, 1) := by decide +kernel
theorem dL_law_917 : decode cL_law 917 = .ok (.invokevirtual 107, 3) := by decide +kernel
theorem dL_law_920 : decode cL_law 920 = .ok (.if_icmp .eq 240, 3) := by decide +kernel
theorem dL_law_923 : decode cL_law 923 = .ok (.iconst 0, 1) := by decide +kernel
theorem dL_law_924 : decode cL_law 924 = .ok (.ireturn, 1) := by decide +kernel
theorem dL_law_925 : decode cL_law 925 = .ok (.aload_n 1, 1) := by decide +kernel
theorem dL_law_926 : decode cL_law 926 = .ok (.aload_n 0, 1) := by decide +kernel
theorem dL_law_927 : decode cL_law 927 = .ok (.iload_n 3, 1) := by decide +kernel
theorem dL_law_928 : decode cL_law 928 = .ok (.iconst 1, 1) := by decide +kernel
theorem dL_law_929 : decode cL_law 929 = .ok (.iadd, 1) := by decide +kernel
theorem dL_law_930 : decode cL_law 930 = .ok (.iaload, 1) := by decide +kernel
theorem dL_law_931 : decode cL_law 931 = .ok (.aload_n 0, 1) := by decide +kernel
theorem dL_law_932 : decode cL_law 932 = .ok (.iload_n 3, 1) := by decide +kernel
theorem dL_law_933 : decode cL_law 933 = .ok (.iconst 2, 1) := by decide +kernel
theorem dL_law_934 : decode cL_law 934 = .ok (.iadd, 1) := by decide +kernel
theorem dL_law_935 : decode cL_law 935 = .ok (.iaload, 1) := by decide +kernel
theorem dL_law_936 : decode cL_law 936 = .ok (.aload_n 0, 1) := by decide +kernel
theorem dL_law_937 : decode cL_law 937 = .ok (.iload_n 3, 1) := by decide +kernel
theorem dL_law_938 : decode cL_law 938 = .ok (.iconst 3, 1) := by decide +kernel
theorem dL_law_939 : decode cL_law 939 = .ok (.iadd, 1) := by decide +kernel
theorem dL_law_940 : decode cL_law 940 = .ok (.iaload, 1) := by decide +kernel
theorem dL_law_941 : decode cL_law 941 = .ok (.invokevirtual 108, 3) := by decide +kernel
theorem dL_law_944 : decode cL_law 944 = .ok (.aload_n 2, 1) := by decide +kernel
theorem dL_law_945 : decode cL_law 945 = .ok (.aload_n 0, 1) := by decide +kernel
theorem dL_law_946 : decode cL_law 946 = .ok (.iload_n 3, 1) := by decide +kernel
theorem dL_law_947 : decode cL_law 947 = .ok (.iconst 1, 1) := by decide +kernel
theorem dL_law_948 : decode cL_law 948 = .ok (.iadd, 1) := by decide +kernel
theorem dL_law_949 : decode cL_law 949 = .ok (.iaload, 1) := by decide +kernel
theorem dL_law_950 : decode cL_law 950 = .ok (.aload_n 0, 1) := by decide +kernel
theorem dL_law_951 : decode cL_law 951 = .ok (.iload_n 3, 1) := by decide +kernel
theorem dL_law_952 : decode cL_law 952 = .ok (.iconst 2, 1) := by decide +kernel
theorem dL_law_953 : decode cL_law 953 = .ok (.iadd, 1) := by decide +kernel
theorem dL_law_954 : decode cL_law 954 = .ok (.iaload, 1) := by decide +kernel
theorem dL_law_955 : decode cL_law 955 = .ok (.aload_n 0, 1) := by decide +kernel
theorem dL_law_956 : decode cL_law 956 = .ok (.iload_n 3, 1) := by decide +kernel
theorem dL_law_957 : decode cL_law 957 = .ok (.iconst 3, 1) := by decide +kernel
theorem dL_law_958 : decode cL_law 958 = .ok (.iadd, 1) := by decide +kernel
theorem dL_law_959 : decode cL_law 959 = .ok (.iaload, 1) := by decide +kernel
theorem dL_law_960 : decode cL_law 960 = .ok (.invokevirtual 111, 3) := by decide +kernel
theorem dL_law_963 : decode cL_law 963 = .ok (.if_icmp .eq 197, 3) := by decide +kernel
theorem dL_law_966 : decode cL_law 966 = .ok (.iconst 0, 1) := by decide +kernel
theorem dL_law_967 : decode cL_law 967 = .ok (.ireturn, 1) := by decide +kernel
theorem dL_law_968 : decode cL_law 968 = .ok (.aload_n 1, 1) := by decide +kernel
theorem dL_law_969 : decode cL_law 969 = .ok (.aload_n 0, 1) := by decide +kernel
theorem dL_law_970 : decode cL_law 970 = .ok (.iload_n 3, 1) := by decide +kernel
theorem dL_law_971 : decode cL_law 971 = .ok (.iconst 1, 1) := by decide +kernel
theorem dL_law_972 : decode cL_law 972 = .ok (.iadd, 1) := by decide +kernel
theorem dL_law_973 : decode cL_law 973 = .ok (.iaload, 1) := by decide +kernel
theorem dL_law_974 : decode cL_law 974 = .ok (.aload_n 0, 1) := by decide +kernel
theorem dL_law_975 : decode cL_law 975 = .ok (.iload_n 3, 1) := by decide +kernel
theorem dL_law_976 : decode cL_law 976 = .ok (.iconst 2, 1) := by decide +kernel
theorem dL_law_977 : decode cL_law 977 = .ok (.iadd, 1) := by decide +kernel
theorem dL_law_978 : decode cL_law 978 = .ok (.iaload, 1) := by decide +kernel
theorem dL_law_979 : decode cL_law 979 = .ok (.aload_n 0, 1) := by decide +kernel
theorem dL_law_980 : decode cL_law 980 = .ok (.iload_n 3, 1) := by decide +kernel
theorem dL_law_981 : decode cL_law 981 = .ok (.iconst 3, 1) := by decide +kernel
theorem dL_law_982 : decode cL_law 982 = .ok (.iadd, 1) := by decide +kernel
theorem dL_law_983 : decode cL_law 983 = .ok (.iaload, 1) := by decide +kernel
theorem dL_law_984 : decode cL_law 984 = .ok (.invokevirtual 112, 3) := by decide +kernel
theorem dL_law_987 : decode cL_law 987 = .ok (.aload_n 2, 1) := by decide +kernel
theorem dL_law_988 : decode cL_law 988 = .ok (.aload_n 0, 1) := by decide +kernel
theorem dL_law_989 : decode cL_law 989 = .ok (.iload_n 3, 1) := by decide +kernel
theorem dL_law_990 : decode cL_law 990 = .ok (.iconst 1, 1) := by decide +kernel
theorem dL_law_991 : decode cL_law 991 = .ok (.iadd, 1) := by decide +kernel
theorem dL_law_992 : decode cL_law 992 = .ok (.iaload, 1) := by decide +kernel
theorem dL_law_993 : decode cL_law 993 = .ok (.aload_n 0, 1) := by decide +kernel
theorem dL_law_994 : decode cL_law 994 = .ok (.iload_n 3, 1) := by decide +kernel
theorem dL_law_995 : decode cL_law 995 = .ok (.iconst 2, 1) := by decide +kernel
theorem dL_law_996 : decode cL_law 996 = .ok (.iadd, 1) := by decide +kernel
theorem dL_law_997 : decode cL_law 997 = .ok (.iaload, 1) := by decide +kernel
theorem dL_law_998 : decode cL_law 998 = .ok (.aload_n 0, 1) := by decide +kernel
theorem dL_law_999 : decode cL_law 999 = .ok (.iload_n 3, 1) := by decide +kernel
theorem dL_law_1000 : decode cL_law 1000 = .ok (.iconst 3, 1) := by decide +kernel
theorem dL_law_1001 : decode cL_law 1001 = .ok (.iadd, 1) := by decide +kernel
theorem dL_law_1002 : decode cL_law 1002 = .ok (.iaload, 1) := by decide +kernel
theorem dL_law_1003 : decode cL_law 1003 = .ok (.invokevirtual 115, 3) := by decide +kernel
theorem dL_law_1006 : decode cL_law 1006 = .ok (.if_icmp .eq 154, 3) := by decide +kernel
theorem dL_law_1009 : decode cL_law 1009 = .ok (.iconst 0, 1) := by decide +kernel
theorem dL_law_1010 : decode cL_law 1010 = .ok (.ireturn, 1) := by decide +kernel
theorem dL_law_1011 : decode cL_law 1011 = .ok (.aload_n 1, 1) := by decide +kernel
theorem dL_law_1012 : decode cL_law 1012 = .ok (.aload_n 0, 1) := by decide +kernel
theorem dL_law_1013 : decode cL_law 1013 = .ok (.iload_n 3, 1) := by decide +kernel
theorem dL_law_1014 : decode cL_law 1014 = .ok (.iconst 1, 1) := by decide +kernel
theorem dL_law_1015 : decode cL_law 1015 = .ok (.iadd, 1) := by decide +kernel
theorem dL_law_1016 : decode cL_law 1016 = .ok (.iaload, 1) := by decide +kernel
theorem dL_law_1017 : decode cL_law 1017 = .ok (.aload_n 0, 1) := by decide +kernel
theorem dL_law_1018 : decode cL_law 1018 = .ok (.iload_n 3, 1) := by decide +kernel
theorem dL_law_1019 : decode cL_law 1019 = .ok (.iconst 2, 1) := by decide +kernel
theorem dL_law_1020 : decode cL_law 1020 = .ok (.iadd, 1) := by decide +kernel
theorem dL_law_1021 : decode cL_law 1021 = .ok (.iaload, 1) := by decide +kernel
theorem dL_law_1022 : decode cL_law 1022 = .ok (.invokevirtual 116, 3) := by decide +kernel
theorem dL_law_1025 : decode cL_law 1025 = .ok (.aload_n 2, 1) := by decide +kernel
theorem dL_law_1026 : decode cL_law 1026 = .ok (.aload_n 0, 1) := by decide +kernel
theorem dL_law_1027 : decode cL_law 1027 = .ok (.iload_n 3, 1) := by decide +kernel
theorem dL_law_1028 : decode cL_law 1028 = .ok (.iconst 1, 1) := by decide +kernel
theorem dL_law_1029 : decode cL_law 1029 = .ok (.iadd, 1) := by decide +kernel
theorem dL_law_1030 : decode cL_law 1030 = .ok (.iaload, 1) := by decide +kernel
theorem dL_law_1031 : decode cL_law 1031 = .ok (.aload_n 0, 1) := by decide +kernel
theorem dL_law_1032 : decode cL_law 1032 = .ok (.iload_n 3, 1) := by decide +kernel
theorem dL_law_1033 : decode cL_law 1033 = .ok (.iconst 2, 1) := by decide +kernel
theorem dL_law_1034 : decode cL_law 1034 = .ok (.iadd, 1) := by decide +kernel
theorem dL_law_1035 : decode cL_law 1035 = .ok (.iaload, 1) := by decide +kernel
theorem dL_law_1036 : decode cL_law 1036 = .ok (.invokevirtual 119, 3) := by decide +kernel
theorem dL_law_1039 : decode cL_law 1039 = .ok (.if_icmp .eq 121, 3) := by decide +kernel
theorem dL_law_1042 : decode cL_law 1042 = .ok (.iconst 0, 1) := by decide +kernel
theorem dL_law_1043 : decode cL_law 1043 = .ok (.ireturn, 1) := by decide +kernel
theorem dL_law_1044 : decode cL_law 1044 = .ok (.aload_n 1, 1) := by decide +kernel
theorem dL_law_1045 : decode cL_law 1045 = .ok (.aload_n 0, 1) := by decide +kernel
theorem dL_law_1046 : decode cL_law 1046 = .ok (.iload_n 3, 1) := by decide +kernel
theorem dL_law_1047 : decode cL_law 1047 = .ok (.iconst 1, 1) := by decide +kernel
theorem dL_law_1048 : decode cL_law 1048 = .ok (.iadd, 1) := by decide +kernel
theorem dL_law_1049 : decode cL_law 1049 = .ok (.iaload, 1) := by decide +kernel
theorem dL_law_1050 : decode cL_law 1050 = .ok (.aload_n 0, 1) := by decide +kernel
theorem dL_law_1051 : decode cL_law 1051 = .ok (.iload_n 3, 1) := by decide +kernel
theorem dL_law_1052 : decode cL_law 1052 = .ok (.iconst 2, 1) := by decide +kernel
theorem dL_law_1053 : decode cL_law 1053 = .ok (.iadd, 1) := by decide +kernel
theorem dL_law_1054 : decode cL_law 1054 = .ok (.iaload, 1) := by decide +kernel
theorem dL_law_1055 : decode cL_law 1055 = .ok (.aload_n 0, 1) := by decide +kernel
theorem dL_law_1056 : decode cL_law 1056 = .ok (.iload_n 3, 1) := by decide +kernel
theorem dL_law_1057 : decode cL_law 1057 = .ok (.iconst 3, 1) := by decide +kernel
theorem dL_law_1058 : decode cL_law 1058 = .ok (.iadd, 1) := by decide +kernel
theorem dL_law_1059 : decode cL_law 1059 = .ok (.iaload, 1) := by decide +kernel
theorem dL_law_1060 : decode cL_law 1060 = .ok (.aload_n 0, 1) := by decide +kernel
theorem dL_law_1061 : decode cL_law 1061 = .ok (.iload_n 3, 1) := by decide +kernel
theorem dL_law_1062 : decode cL_law 1062 = .ok (.iconst 4, 1) := by decide +kernel
theorem dL_law_1063 : decode cL_law 1063 = .ok (.iadd, 1) := by decide +kernel
theorem dL_law_1064 : decode cL_law 1064 = .ok (.iaload, 1) := by decide +kernel
theorem dL_law_1065 : decode cL_law 1065 = .ok (.invokevirtual 120, 3) := by decide +kernel
theorem dL_law_1068 : decode cL_law 1068 = .ok (.aload_n 2, 1) := by decide +kernel
theorem dL_law_1069 : decode cL_law 1069 = .ok (.aload_n 0, 1) := by decide +kernel
theorem dL_law_1070 : decode cL_law 1070 = .ok (.iload_n 3, 1) := by decide +kernel
theorem dL_law_1071 : decode cL_law 1071 = .ok (.iconst 1, 1) := by decide +kernel
theorem dL_law_1072 : decode cL_law 1072 = .ok (.iadd, 1) := by decide +kernel
theorem dL_law_1073 : decode cL_law 1073 = .ok (.iaload, 1) := by decide +kernel
theorem dL_law_1074 : decode cL_law 1074 = .ok (.aload_n 0, 1) := by decide +kernel
theorem dL_law_1075 : decode cL_law 1075 = .ok (.iload_n 3, 1) := by decide +kernel
theorem dL_law_1076 : decode cL_law 1076 = .ok (.iconst 2, 1) := by decide +kernel
theorem dL_law_1077 : decode cL_law 1077 = .ok (.iadd, 1) := by decide +kernel
theorem dL_law_1078 : decode cL_law 1078 = .ok (.iaload, 1) := by decide +kernel
theorem dL_law_1079 : decode cL_law 1079 = .ok (.aload_n 0, 1) := by decide +kernel
theorem dL_law_1080 : decode cL_law 1080 = .ok (.iload_n 3, 1) := by decide +kernel
theorem dL_law_1081 : decode cL_law 1081 = .ok (.iconst 3, 1) := by decide +kernel
theorem dL_law_1082 : decode cL_law 1082 = .ok (.iadd, 1) := by decide +kernel
theorem dL_law_1083 : decode cL_law 1083 = .ok (.iaload, 1) := by decide +kernel
theorem dL_law_1084 : decode cL_law 1084 = .ok (.aload_n 0, 1) := by decide +kernel
theorem dL_law_1085 : decode cL_law 1085 = .ok (.iload_n 3, 1) := by decide +kernel
theorem dL_law_1086 : decode cL_law 1086 = .ok (.iconst 4, 1) := by decide +kernel
theorem dL_law_1087 : decode cL_law 1087 = .ok (.iadd, 1) := by decide +kernel
theorem dL_law_1088 : decode cL_law 1088 = .ok (.iaload, 1) := by decide +kernel
theorem dL_law_1089 : decode cL_law 1089 = .ok (.invokevirtual 123, 3) := by decide +kernel
theorem dL_law_1092 : decode cL_law 1092 = .ok (.if_icmp .eq 68, 3) := by decide +kernel
theorem dL_law_1095 : decode cL_law 1095 = .ok (.iconst 0, 1) := by decide +kernel
theorem dL_law_1096 : decode cL_law 1096 = .ok (.ireturn, 1) := by decide +kernel
theorem dL_law_1097 : decode cL_law 1097 = .ok (.aload_n 1, 1) := by decide +kernel
theorem dL_law_1098 : decode cL_law 1098 = .ok (.invokevirtual 124, 3) := by decide +kernel
theorem dL_law_1101 : decode cL_law 1101 = .ok (.aload_n 2, 1) := by decide +kernel
theorem dL_law_1102 : decode cL_law 1102 = .ok (.invokevirtual 127, 3) := by decide +kernel
theorem dL_law_1105 : decode cL_law 1105 = .ok (.if_icmp .eq 55, 3) := by decide +kernel
theorem dL_law_1108 : decode cL_law 1108 = .ok (.iconst 0, 1) := by decide +kernel
theorem dL_law_1109 : decode cL_law 1109 = .ok (.ireturn, 1) := by decide +kernel
theorem dL_law_1110 : decode cL_law 1110 = .ok (.aload_n 1, 1) := by decide +kernel
theorem dL_law_1111 : decode cL_law 1111 = .ok (.invokevirtual 128, 3) := by decide +kernel
theorem dL_law_1114 : decode cL_law 1114 = .ok (.aload_n 2, 1) := by decide +kernel
theorem dL_law_1115 : decode cL_law 1115 = .ok (.invokevirtual 131, 3) := by decide +kernel
theorem dL_law_1118 : decode cL_law 1118 = .ok (.if_icmp .eq 42, 3) := by decide +kernel
theorem dL_law_1121 : decode cL_law 1121 = .ok (.iconst 0, 1) := by decide +kernel
theorem dL_law_1122 : decode cL_law 1122 = .ok (.ireturn, 1) := by decide +kernel
theorem dL_law_1123 : decode cL_law 1123 = .ok (.aload_n 1, 1) := by decide +kernel
theorem dL_law_1124 : decode cL_law 1124 = .ok (.aload_n 0, 1) := by decide +kernel
theorem dL_law_1125 : decode cL_law 1125 = .ok (.iload_n 3, 1) := by decide +kernel
theorem dL_law_1126 : decode cL_law 1126 = .ok (.iconst 1, 1) := by decide +kernel
theorem dL_law_1127 : decode cL_law 1127 = .ok (.iadd, 1) := by decide +kernel
theorem dL_law_1128 : decode cL_law 1128 = .ok (.iaload, 1) := by decide +kernel
theorem dL_law_1129 : decode cL_law 1129 = .ok (.invokevirtual 132, 3) := by decide +kernel
theorem dL_law_1132 : decode cL_law 1132 = .ok (.aload_n 2, 1) := by decide +kernel
theorem dL_law_1133 : decode cL_law 1133 = .ok (.aload_n 0, 1) := by decide +kernel
theorem dL_law_1134 : decode cL_law 1134 = .ok (.iload_n 3, 1) := by decide +kernel
theorem dL_law_1135 : decode cL_law 1135 = .ok (.iconst 1, 1) := by decide +kernel
theorem dL_law_1136 : decode cL_law 1136 = .ok (.iadd, 1) := by decide +kernel
theorem dL_law_1137 : decode cL_law 1137 = .ok (.iaload, 1) := by decide +kernel
theorem dL_law_1138 : decode cL_law 1138 = .ok (.invokevirtual 135, 3) := by decide +kernel
theorem dL_law_1141 : decode cL_law 1141 = .ok (.if_icmp .eq 19, 3) := by decide +kernel
theorem dL_law_1144 : decode cL_law 1144 = .ok (.iconst 0, 1) := by decide +kernel
theorem dL_law_1145 : decode cL_law 1145 = .ok (.ireturn, 1) := by decide +kernel
theorem dL_law_1146 : decode cL_law 1146 = .ok (.aload_n 1, 1) := by decide +kernel
theorem dL_law_1147 : decode cL_law 1147 = .ok (.invokevirtual 136, 3) := by decide +kernel
theorem dL_law_1150 : decode cL_law 1150 = .ok (.aload_n 2, 1) := by decide +kernel
theorem dL_law_1151 : decode cL_law 1151 = .ok (.invokevirtual 140, 3) := by decide +kernel
theorem dL_law_1154 : decode cL_law 1154 = .ok (.lcmp, 1) := by decide +kernel
theorem dL_law_1155 : decode cL_law 1155 = .ok (.ifCond .eq 5, 3) := by decide +kernel
theorem dL_law_1158 : decode cL_law 1158 = .ok (.iconst 0, 1) := by decide +kernel
theorem dL_law_1159 : decode cL_law 1159 = .ok (.ireturn, 1) := by decide +kernel
theorem dL_law_1160 : decode cL_law 1160 = .ok (.iinc 3 7, 3) := by decide +kernel
theorem dL_law_1163 : decode cL_law 1163 = .ok (.goto (-1145), 3) := by decide +kernel
theorem dL_law_1166 : decode cL_law 1166 = .ok (.iconst 1, 1) := by decide +kernel
theorem dL_law_1167 : decode cL_law 1167 = .ok (.ireturn, 1) := by decide +kernel
end
section
/-! worlds as a function of a mathematical state: entry, returns, calls, fields, arrays -/
def lwg : List Cond := lw_tbl.filter goodWord
theorem lwG : lwg.all goodWord = true := List.all_eq_true.mpr (fun w h => (List.mem_filter.mp h).2)
theorem lwg_of {w : Cond} (h : w ∈ lw_tbl) (hg : goodWord w = true) : w ∈ lwg := List.mem_filter.mpr ⟨h, hg⟩
theorem lwg_at {w : Cond} (i : Nat) (h : lw_tbl[i]? = some w) (hg : goodWord w = true) : w ∈ lwg := lwg_of (List.mem_of_getElem? h) hg
theorem lwg_all {ws : List Cond} (h : ws.all (fun w => goodWord w && lw_tbl.contains w) = true) : ∀ w ∈ ws, w ∈ lwg := fun w hw => by
  have h1 := List.all_eq_true.mp h w hw
  simp only [Bool.and_eq_true] at h1
  exact lwg_of (List.contains_iff_mem.mp h1.2) h1.1
def bnd {α : Type} (a : α) (f : α → Prop) : Prop := ∀ x, x = a → f x
theorem bnd_iff {α : Type} {a : α} {f : α → Prop} : bnd a f ↔ f a := ⟨fun h => h a rfl, fun h x e => e ▸ h⟩
theorem br_pos {c A B : Prop} [Decidable c] (h : c) (q : if c then A else B) : A := by rwa [if_pos h] at q
theorem br_neg {c A B : Prop} [Decidable c] (h : ¬ c) (q : if c then A else B) : B := by rwa [if_neg h] at q
def isB (v : Int32) : Prop := v = 0 ∨ v = 1
theorem isB_0 : isB 0 := Or.inl rfl
theorem isB_1 : isB 1 := Or.inr rfl
theorem isB_ite {c : Prop} [Decidable c] {a b : Int32} (ha : isB a) (hb : isB b) : isB (if c then a else b) := by split <;> assumption
theorem isB_nar {v : Int32} (h : isB v) : narrow .boolean (.int v) = .int v := by rcases h with rfl | rfl <;> decide
theorem isB_fit {v : Int32} (h : isB v) : fits .boolean (.int v) = true := by rcases h with rfl | rfl <;> decide
theorem isB_vnar {v : Int32} (h : isB v) : vp_nar .boolean v = v := by rcases h with rfl | rfl <;> decide
def xN1 (U : State) : Prop := va_Nc "HermitsSpoon$Hermit" "HermitsSpoon$Slow" U ∧ va_Nc "HermitsSpoon$Deaf" "HermitsSpoon$Slow" U ∧ va_Nc "HermitsSpoon$Greedy" "HermitsSpoon$Slow" U ∧ va_Nc "HermitsSpoon$Hermit" "HermitsSpoon$Deaf" U ∧ va_Nc "HermitsSpoon$Slow" "HermitsSpoon$Deaf" U ∧ va_Nc "HermitsSpoon$Greedy" "HermitsSpoon$Deaf" U ∧ va_Nc "HermitsSpoon$Feeder" "HermitsSpoon$Deaf" U ∧ va_Nc "HermitsSpoon$Hermit" "HermitsSpoon$Greedy" U ∧ va_Nc "HermitsSpoon$Slow" "HermitsSpoon$Greedy" U ∧ va_Nc "HermitsSpoon$Deaf" "HermitsSpoon$Greedy" U ∧ va_Nc "HermitsSpoon$Feeder" "HermitsSpoon$Greedy" U ∧ va_Nc "HermitsSpoon$Hermit" "HermitsSpoon$Feeder" U ∧ va_Nc "HermitsSpoon$Slow" "HermitsSpoon$Feeder" U ∧ va_Nc "HermitsSpoon$Deaf" "HermitsSpoon$Feeder" U ∧ va_Nc "HermitsSpoon$Greedy" "HermitsSpoon$Feeder" U
def xN2 (U : State) : Prop := va_Nw (.castable "HermitsSpoon$Deaf" "HermitsSpoon$Hermit") U ∧ va_Nw (.castable "HermitsSpoon$Feeder" "HermitsSpoon$Hermit") U ∧ va_Nw (.castable "HermitsSpoon$Greedy" "HermitsSpoon$Hermit") U ∧ va_Nw (.castable "HermitsSpoon$Slow" "HermitsSpoon$Hermit") U ∧ va_Nw (.castable "HermitsSpoon$Feeder" "HermitsSpoon$Slow") U ∧ va_Nw (.castable "HermitsSpoon$Deaf" "java/lang/Object") U ∧ va_Nw (.castable "HermitsSpoon$Feeder" "java/lang/Object") U ∧ va_Nw (.castable "HermitsSpoon$Greedy" "java/lang/Object") U ∧ va_Nw (.castable "HermitsSpoon$Slow" "java/lang/Object") U ∧ va_Nw (.castable "HermitsSpoon$Hermit" "java/lang/Object") U ∧ va_Nw (.castable "HermitsSpoon$Vow" "java/lang/Object") U
def xN3 (U : State) : Prop := va_Nw (.methodLinkNest "HermitsSpoon" 21 ⟨"HermitsSpoon$Page", "<init>", "()V"⟩ "HermitsSpoon") U ∧ va_Nw (.methodLinkNest "HermitsSpoon$Vow" 29 ⟨"HermitsSpoon", "asNumber", "(Z)I"⟩ "HermitsSpoon") U ∧ va_Nw (.methodLinkNest "HermitsSpoon$Sitting" 161 ⟨"HermitsSpoon", "asNumber", "(Z)I"⟩ "HermitsSpoon") U ∧ va_Nw (.methodLinkNest "HermitsSpoon$Table" 59 ⟨"HermitsSpoon", "asNumber", "(Z)I"⟩ "HermitsSpoon") U
/-- what the tables say that no word list carries: casts that fail, casts that hold, links among nest mates, the class of Object[] -/
def xNc (U : State) : Prop := xN1 U ∧ xN2 U ∧ xN3 U ∧ va_AO "java/lang/Object" U
theorem xN1.moved {u U : State} (hvm : u.vm.Alike U.vm) (h : xN1 u) : xN1 U := by
  obtain ⟨h0, h1, h2, h3, h4, h5, h6, h7, h8, h9, h10, h11, h12, h13, h14⟩ := h
  exact ⟨h0.moved hvm, h1.moved hvm, h2.moved hvm, h3.moved hvm, h4.moved hvm, h5.moved hvm, h6.moved hvm, h7.moved hvm, h8.moved hvm, h9.moved hvm, h10.moved hvm, h11.moved hvm, h12.moved hvm, h13.moved hvm, h14.moved hvm⟩
theorem xN2.warm {u U : State} (hV : u.WarmedH U.vm) (h : xN2 u) : xN2 U := by
  obtain ⟨h0, h1, h2, h3, h4, h5, h6, h7, h8, h9, h10⟩ := h
  exact ⟨va_Nw.warmC hV h0, va_Nw.warmC hV h1, va_Nw.warmC hV h2, va_Nw.warmC hV h3, va_Nw.warmC hV h4, va_Nw.warmC hV h5, va_Nw.warmC hV h6, va_Nw.warmC hV h7, va_Nw.warmC hV h8, va_Nw.warmC hV h9, va_Nw.warmC hV h10⟩
theorem xN3.warm {u U : State} (hV : u.WarmedH U.vm) (h : xN3 u) : xN3 U := by
  obtain ⟨h0, h1, h2, h3⟩ := h
  exact ⟨va_Nw.warmM hV h0, va_Nw.warmM hV h1, va_Nw.warmM hV h2, va_Nw.warmM hV h3⟩
theorem xN2.same {u U : State} (hV : u.vm = U.vm) (h : xN2 u) : xN2 U := by
  obtain ⟨h0, h1, h2, h3, h4, h5, h6, h7, h8, h9, h10⟩ := h
  exact ⟨va_Nw.same rfl hV h0, va_Nw.same rfl hV h1, va_Nw.same rfl hV h2, va_Nw.same rfl hV h3, va_Nw.same rfl hV h4, va_Nw.same rfl hV h5, va_Nw.same rfl hV h6, va_Nw.same rfl hV h7, va_Nw.same rfl hV h8, va_Nw.same rfl hV h9, va_Nw.same rfl hV h10⟩
theorem xN3.same {u U : State} (hV : u.vm = U.vm) (h : xN3 u) : xN3 U := by
  obtain ⟨h0, h1, h2, h3⟩ := h
  exact ⟨va_Nw.same rfl hV h0, va_Nw.same rfl hV h1, va_Nw.same rfl hV h2, va_Nw.same rfl hV h3⟩
theorem xNc.warm {u U : State} (hV : u.WarmedH U.vm) (h : xNc u) : xNc U := ⟨h.1.moved hV.alike, h.2.1.warm hV, h.2.2.1.warm hV, h.2.2.2.moved hV.alike⟩
theorem xNc.same {u U : State} (hV : u.vm = U.vm) (h : xNc u) : xNc U := ⟨h.1.moved (by rw [hV]; exact Vm.Alike.refl _), h.2.1.same hV, h.2.2.1.same hV, h.2.2.2.moved (by rw [hV]; exact Vm.Alike.refl _)⟩
section BASE
variable {p : Program} {l : Launch} {e : Env} {R : Room} {s : State} {m : MethodId} {args : Array Value} {below : List Frame} {meth : Method} {c : Code} {H : Heap} {locs : List Loc} {cells slots : Nat} {Q : State → Prop}
variable {cc : ByteArray} {pc : Nat} {ls : Array Slot} {rest : List Value} {own : String} {nL : Nat}
variable {S : Type} {D : va_G} {ww : S → va_W} {ty : List (ClassId × FieldType)} {A : Nat → Prop} {σ σ' : S}
def WI {S : Type} (D : va_G) (ww : S → va_W) (ty : List (ClassId × FieldType)) (A : Nat → Prop) (s : State) (σ : S) (H : Heap) (locs : List Loc) : Prop :=
  va_P D vwCl (ww σ) H ∧ va_D A (ww σ) ∧ va_K D vwCl ty s ∧ va_S A s.heap H locs ∧ (∀ q, s.heap.size ≤ q → A q) ∧ xNc s
def WP {S : Type} (D : va_G) (ww : S → va_W) (ty : List (ClassId × FieldType)) (σ : S) (sz : Nat) (U : State) : Prop :=
  U.heap.size = sz ∧ va_P D vwCl (ww σ) U.heap ∧ va_K D vwCl ty U ∧ va_D (fun _ => True) (ww σ) ∧ xNc U
def WB {S : Type} (D : va_G) (ww : S → va_W) (ty : List (ClassId × FieldType)) (σ : S) (sz : Nat) (σ' : S) (t : State) : Prop :=
  va_P D vwCl (ww σ') t.heap ∧ va_K D vwCl ty t ∧ va_D (va_A (ww σ) sz) (ww σ')
abbrev cws (y : MethodName) (b : ByteArray) (n : Nat) (ret : Option FieldType) : List Cond := Cond.code y b n ret :: lwg
theorem w_enter {y : MethodName} {b : ByteArray} {n : Nat} {ret : Option FieldType} {rm : Room} {Av : List Value} {mc ms sz : Nat} {Qc : Array Value → State → Outcome → State → Prop} (hy : plainName y.cls = true) (hn : (lg_sl Av).length ≤ n)
    (body : ∀ (p : Program) (e : Env) (s : State) (m : MethodId) (args : Array Value) (below : List Frame) (meth : Method) (c : Code) (ls : Array Slot), CallFix p m c b n s args lwg y.cls → meth.sig.returnType = ret → meth.locks = false → meth.name = y.name → s.heap.size = sz →
      WI D ww ty (va_A (ww σ) sz) s σ s.heap [] → lv_has ls n (lv_args 0 Av) → W p l e rm s m args below meth c s.heap [] 0 0 (MQ below Qc args s mc ms (va_A (ww σ) sz)) (F0 m 0 ls [])) :
    Met l y (cws y b n ret) rm (va_Pc Av (WP D ww ty σ sz)) Qc mc ms (va_A (ww σ) sz) := by
  refine Met.ofW (cc := b) (maxL := n) (ret := ret) hy rfl ?_
  intro p e s m args below meth c s₁ B hml hv
  obtain ⟨rfl, hsz, hP, hK, hD, hN⟩ := hv
  have hts := atoms_spec (ws := cws y b n ret) B.pre
  have hl := lv_entry Av (n := n) hn
  rw [lg_entry_eq]
  exact body p e s m _ below meth c _ ⟨B.exec, B.bytes, hml, findClass_of_methodNamed B.named, fun w hw => hts w (List.mem_cons_of_mem _ hw)⟩ B.returns B.notSynchronized (name_of_methodNamed B.named B.method).1 hsz ⟨hP, hD.self, hK, va_S.rf, fun q h => Or.inr (by rw [← hsz]; exact h), hN⟩ hl
theorem w_iret (C : CallFix p m c cc nL s args lwg own) {sz : Nat} (hs : s.heap.size = sz) (hr : meth.sig.returnType = some .int) (hk : meth.locks = false) (hW : WI D ww ty (va_A (ww σ) sz) s σ' H locs) {post : Int32 → S → Prop} {v : Int32} (hd : decode cc pc = .ok (.ireturn, 1)) (hq : post v σ') :
    W p l e R s m args below meth c H locs cells slots (MQ below (va_Qi post (WB D ww ty σ sz) (va_A (ww σ) sz)) args s cells slots (va_A (ww σ) sz)) (F0 m pc ls [.int v]) := by
  obtain ⟨hP, hD, hK, hS, -⟩ := hW
  exact W.iret (v := v) C.1 C.2.1 hr (fun t ht hW => ⟨⟨v, σ', rfl, hq, by rw [ht]; exact hP, va_K.moved hW.alike hK, hD⟩, hS.F ht⟩) hS.2.2 hd
theorem w_zret (C : CallFix p m c cc nL s args lwg own) {sz : Nat} (hs : s.heap.size = sz) (hr : meth.sig.returnType = some .boolean) (hk : meth.locks = false) (hW : WI D ww ty (va_A (ww σ) sz) s σ' H locs) {post : Int32 → S → Prop} {v : Int32} (hd : decode cc pc = .ok (.ireturn, 1)) (hv : isB v) (hq : post v σ') :
    W p l e R s m args below meth c H locs cells slots (MQ below (va_Qi post (WB D ww ty σ sz) (va_A (ww σ) sz)) args s cells slots (va_A (ww σ) sz)) (F0 m pc ls [.int v]) := by
  obtain ⟨hP, hD, hK, hS, -⟩ := hW
  exact W.zret (v := v) C.1 C.2.1 hr (isB_nar hv) (fun t ht hW => ⟨⟨v, σ', rfl, hq, by rw [ht]; exact hP, va_K.moved hW.alike hK, hD⟩, hS.F ht⟩) hS.2.2 hd
theorem w_lret (C : CallFix p m c cc nL s args lwg own) {sz : Nat} (hs : s.heap.size = sz) (hr : meth.sig.returnType = some .long) (hk : meth.locks = false) (hW : WI D ww ty (va_A (ww σ) sz) s σ' H locs) {post : Int64 → S → Prop} {v : Int64} (hd : decode cc pc = .ok (.lreturn, 1)) (hq : post v σ') :
    W p l e R s m args below meth c H locs cells slots (MQ below (va_Ql post (WB D ww ty σ sz) (va_A (ww σ) sz)) args s cells slots (va_A (ww σ) sz)) (F0 m pc ls [.long v]) := by
  obtain ⟨hP, hD, hK, hS, -⟩ := hW
  exact W.lret (v := v) C.1 C.2.1 hr (fun t ht hW => ⟨⟨v, σ', rfl, hq, by rw [ht]; exact hP, va_K.moved hW.alike hK, hD⟩, hS.F ht⟩) hS.2.2 hd
theorem w_vret (C : CallFix p m c cc nL s args lwg own) {sz : Nat} (hs : s.heap.size = sz) (hr : meth.sig.returnType = none) (hk : meth.locks = false) (hW : WI D ww ty (va_A (ww σ) sz) s σ' H locs) {post : S → Prop} (hd : decode cc pc = .ok (.return_, 1)) (hq : post σ') :
    W p l e R s m args below meth c H locs cells slots (MQ below (va_Qv post (WB D ww ty σ sz) (va_A (ww σ) sz)) args s cells slots (va_A (ww σ) sz)) (F0 m pc ls []) := by
  obtain ⟨hP, hD, hK, hS, -⟩ := hW
  exact W.vret C.1 C.2.1 hr (fun t ht hW => ⟨⟨σ', rfl, hq, by rw [ht]; exact hP, va_K.moved hW.alike hK, hD⟩, hS.F ht⟩) hS.2.2 hd
/-- what a call's words are: its code, its link, its class -/
def cOK (own : String) (idx : Nat) (y : MethodName) (b : ByteArray) (n : Nat) (ret : Option FieldType) : Prop :=
  Cond.code y b n ret ∈ lwg ∧ Cond.initialized y.cls ∈ lwg ∧ Cond.methodLink own idx y ∈ lwg
theorem cws_good {y : MethodName} {b : ByteArray} {n : Nat} {ret : Option FieldType} (h : Cond.code y b n ret ∈ lwg) : GoodIn lwg (cws y b n ret) := fun w hw => by
  have hm : w ∈ lwg := by
    rcases List.mem_cons.mp hw with e | e
    · rw [e]; exact h
    · exact e
  exact ⟨hm, good_of_word (List.all_eq_true.mp lwG w hm)⟩
theorem w_blind {Av : List Value} {sz : Nat} : FrameBlind (va_Pc Av (WP D ww ty σ sz)) := fun a U g mk q => by
  obtain ⟨q0, q1, qP, qK, qD, qN⟩ := q
  exact ⟨q0, q1, qP, va_K.moved (u := U) (U := U.calling g mk a) (Vm.Alike.refl U.vm) qK, qD, qN.same (u := U) (U := U.calling g mk a) rfl⟩
theorem w_pre (hW : WI D ww ty A s σ H locs) {Av : List Value} (U : State) (hU : U.heap = H) (hV : s.WarmedH U.vm) : va_Pc Av (WP D ww ty σ H.size) Av.toArray U :=
  ⟨rfl, by rw [hU], by rw [hU]; exact hW.1, va_K.moved hV.alike hW.2.2.1, hW.2.1.weaken (fun _ _ _ _ => trivial), hW.2.2.2.2.2.warm hV⟩
theorem w_sub (hW : WI D ww ty A s σ H locs) : ∀ q, va_A (ww σ) H.size q → A q := fun q h => by
  rcases h with ⟨k, e, h⟩ | h
  · exact hW.2.1.2 k (q, e) h
  · exact hW.2.2.2.2.1 q (Nat.le_trans hW.2.2.2.1.1 h)
theorem w_back (hW : WI D ww ty A s σ H locs) {t : State} {H1 : Heap} {locs1 : List Loc} (ht : t.heap = H1) (hvm : s.vm.Alike t.vm) (hB : WB D ww ty σ H.size σ' t) (hS : va_S A s.heap H1 locs1) : WI D ww ty A s σ' H1 locs1 := by
  obtain ⟨hP, hK, hD⟩ := hB
  rw [ht] at hP
  exact ⟨hP, hD.weaken (fun k q _ h => w_sub hW q.1 h), va_K.moved hvm.symm hK, hS, hW.2.2.2.2⟩
/-- how a callee runs: any kind of call, its contract over the whole world -/
abbrev runsAs (p : Program) (l : Launch) (e : Env) (R : Room) (s : State) (m : MethodId) (args : Array Value) (below : List Frame) (meth : Method) (c : Code) (H : Heap) (locs : List Loc) (cells slots mc ms : Nat) (pc : Nat) (ls : Array Slot) (st rest : List Value) (Qa : State → Outcome → State → Prop) (free : Addr → Prop) : Prop :=
  va_Run p l e R s m args below meth c H locs cells slots mc ms (F0 m pc ls st) rest Qa free
theorem w_runV (C : CallFix p m c cc nL s args lwg own) (hW : WI D ww ty A s σ H locs) {y : MethodName} {b : ByteArray} {n idx np q0 ci a : Nat} {ret : Option FieldType} {rm : Room} {As : List Value} {mc ms : Nat} {Qc : Array Value → State → Outcome → State → Prop} {fs : List Value} {vc : vw_C}
    (hM : Met l y (cws y b n ret) rm (va_Pc (.ref a :: As) (WP D ww ty σ H.size)) Qc mc ms (va_A (ww σ) H.size)) (hc : cOK own idx y b n ret) (hi : Cond.instanceMethod y ∈ lwg) (hse : Cond.selects y.cls y y ∈ lwg)
    (hd : y.cls ≠ "java/lang/invoke/MethodHandle" ∧ y.cls ≠ "java/lang/invoke/VarHandle" ∧ (parseMethodDescriptor y.desc).map (fun d => d.parameters.length) = some np) (hrm : rm.cells = mc ∧ rm.slots = ms) (hR : rm.frames + 1 ≤ R.frames ∧ 8 + (n + 11) + rm.locals ≤ R.locals)
    (hcl : vwCl[ci]? = some vc) (hvc : vc.1 = y.cls) (he : (ww σ)[q0]? = some (a, .inr (ci, fs))) (hn : As.length = np) (hls : ls.size = nL) {st : List Value} (hst : st = As.reverse ++ .ref a :: rest) (hro : (rest.map fun v => v.category).sum ≤ 8) (hdg : decode cc pc = .ok (.invokevirtual idx, 3)) (hf : cells + mc ≤ R.cells ∧ slots + ms ≤ R.slots) :
    va_Run p l e R s m args below meth c H locs cells slots mc ms (F0 m pc ls st) rest (Qc (Value.ref a :: As).toArray) (va_A (ww σ) H.size) := by
  obtain ⟨h1, h2, h3⟩ := hc
  obtain ⟨hx, hb, hml, hown, hts⟩ := C
  refine va_runV (C := y.cls) ⟨hx, hb, hml, hown, hts⟩ hM ⟨callB_of np hts (cws_good h1) rfl hrm.1 hrm.2 (hts _ h2) (hts _ h3) hd hR, hts _ hi, hts _ hse⟩ ⟨w_blind, ?_, fun U hU hV => w_pre hW U hU hV⟩ rfl hn hls hst (lv_room hro) hdg hf
  rw [← hvc]
  exact va_recv hW.2.2.1 hW.1 hcl he
theorem w_runS (C : CallFix p m c cc nL s args lwg own) (hW : WI D ww ty A s σ H locs) {y : MethodName} {b : ByteArray} {n idx np : Nat} {ret : Option FieldType} {rm : Room} {As : List Value} {mc ms : Nat} {Qc : Array Value → State → Outcome → State → Prop}
    (hM : Met l y (cws y b n ret) rm (va_Pc As (WP D ww ty σ H.size)) Qc mc ms (va_A (ww σ) H.size)) (hc : cOK own idx y b n ret) (hi : Cond.static y ∈ lwg)
    (hd : y.cls ≠ "java/lang/invoke/MethodHandle" ∧ y.cls ≠ "java/lang/invoke/VarHandle" ∧ (parseMethodDescriptor y.desc).map (fun d => d.parameters.length) = some np) (hrm : rm.cells = mc ∧ rm.slots = ms) (hR : rm.frames + 1 ≤ R.frames ∧ 8 + (n + 11) + rm.locals ≤ R.locals)
    (hn : As.length = np) (hls : ls.size = nL) {st : List Value} (hst : st = As.reverse ++ rest) (hro : (rest.map fun v => v.category).sum ≤ 8) (hdg : decode cc pc = .ok (.invokestatic idx, 3)) (hf : cells + mc ≤ R.cells ∧ slots + ms ≤ R.slots) :
    va_Run p l e R s m args below meth c H locs cells slots mc ms (F0 m pc ls st) rest (Qc As.toArray) (va_A (ww σ) H.size) := by
  obtain ⟨h1, h2, h3⟩ := hc
  obtain ⟨hx, hb, hml, hown, hts⟩ := C
  exact va_runS ⟨hx, hb, hml, hown, hts⟩ hM ⟨callB_of np hts (cws_good h1) rfl hrm.1 hrm.2 (hts _ h2) (hts _ h3) hd hR, hts _ hi⟩ ⟨w_blind, fun U hU hV => w_pre hW U hU hV⟩ rfl hn hls hst (lv_room hro) hdg hf
theorem w_calli (hW : WI D ww ty A s σ H locs) {mc ms : Nat} {st : List Value} {post : Int32 → S → Prop} {a : Array Value} (hr : va_Run p l e R s m args below meth c H locs cells slots mc ms (F0 m pc ls st) rest (va_Qi post (WB D ww ty σ H.size) (va_A (ww σ) H.size) a) (va_A (ww σ) H.size))
    (kk : ∀ (r : Int32) (σ' : S) (H' : Heap) (locs' : List Loc), post r σ' → WI D ww ty A s σ' H' locs' → W p l e R s m args below meth c H' locs' (cells + mc) (slots + ms) Q (F0 m (pc + 3) ls (.int r :: rest))) : W p l e R s m args below meth c H locs cells slots Q (F0 m pc ls st) :=
  va_calli hr hW.2.2.2.1 (fun q _ h => w_sub hW q h) (w_sub hW) (fun r u t H1 locs1 ht hvm hp hB _ _ hS => kk r u H1 locs1 hp (w_back hW ht hvm hB hS))
theorem w_calll (hW : WI D ww ty A s σ H locs) {mc ms : Nat} {st : List Value} {post : Int64 → S → Prop} {a : Array Value} (hr : va_Run p l e R s m args below meth c H locs cells slots mc ms (F0 m pc ls st) rest (va_Ql post (WB D ww ty σ H.size) (va_A (ww σ) H.size) a) (va_A (ww σ) H.size))
    (kk : ∀ (r : Int64) (σ' : S) (H' : Heap) (locs' : List Loc), post r σ' → WI D ww ty A s σ' H' locs' → W p l e R s m args below meth c H' locs' (cells + mc) (slots + ms) Q (F0 m (pc + 3) ls (.long r :: rest))) : W p l e R s m args below meth c H locs cells slots Q (F0 m pc ls st) :=
  va_calll hr hW.2.2.2.1 (fun q _ h => w_sub hW q h) (w_sub hW) (fun r u t H1 locs1 ht hvm hp hB _ _ hS => kk r u H1 locs1 hp (w_back hW ht hvm hB hS))
theorem w_callv (hW : WI D ww ty A s σ H locs) {mc ms : Nat} {st : List Value} {post : S → Prop} {a : Array Value} (hr : va_Run p l e R s m args below meth c H locs cells slots mc ms (F0 m pc ls st) rest (va_Qv post (WB D ww ty σ H.size) (va_A (ww σ) H.size) a) (va_A (ww σ) H.size))
    (kk : ∀ (σ' : S) (H' : Heap) (locs' : List Loc), post σ' → WI D ww ty A s σ' H' locs' → W p l e R s m args below meth c H' locs' (cells + mc) (slots + ms) Q (F0 m (pc + 3) ls rest)) : W p l e R s m args below meth c H locs cells slots Q (F0 m pc ls st) :=
  va_callv hr hW.2.2.2.1 (fun q _ h => w_sub hW q h) (w_sub hW) (fun u t H1 locs1 ht hvm hp hB _ _ hS => kk u H1 locs1 hp (w_back hW ht hvm hB hS))
theorem w_get (C : CallFix p m c cc nL s args lwg own) (hW : WI D ww ty A s σ H locs) {ref Cn : String} {T : u_T} {N ci index q0 k a : Nat} {fs : List Value} {v : Value} (hin : ∀ w ∈ u_ws Cn T N, w ∈ lwg) (he : (ww σ)[q0]? = some (a, .inr (ci, fs))) (hc : vwCl[ci]? = some (Cn, T, N)) (hk : k < N) (hl : Cond.fieldLink own index ref (T k).2.1 (T k).2.2.1 ∈ lwg) (href : ref = (T k).1) (hv : fs[k]? = some v) (hd : decode cc pc = .ok (.getfield index, 3))
    (kk : W p l e R s m args below meth c H locs cells slots Q (F0 m (pc + 3) ls (v :: rest))) : W p l e R s m args below meth c H locs cells slots Q (F0 m pc ls (.ref a :: rest)) := by
  obtain ⟨hx, hb, hml, hown, hts⟩ := C
  exact va_get hx hb hts hin hown hW.2.2.1 hW.1 q0 he hc k hk (hts _ hl) (fun x h => by rw [href]; exact h) hv hd kk
theorem w_put (C : CallFix p m c cc nL s args lwg own) (hW : WI D ww ty A s σ H locs) {ref Cn : String} {T : u_T} {N ci index q0 k a : Nat} {fs : List Value} {v : Value} (hin : ∀ w ∈ u_ws Cn T N, w ∈ lwg) (ty0 : Nat → FieldType) (hty : ∀ k, k < N → parseFieldDescriptor (T k).2.2.1 = some (ty0 k)) (hnm : ∀ a, a < N → ∀ b, b < N → a ≠ b → (T a).2.1 ≠ (T b).2.1) (he : (ww σ)[q0]? = some (a, .inr (ci, fs))) (hc : vwCl[ci]? = some (Cn, T, N)) (hk : k < N) (hl : Cond.fieldLink own index ref (T k).2.1 (T k).2.2.1 ∈ lwg) (href : ref = (T k).1) (hfin : (T k).2.2.2 = false) (hn : narrow (ty0 k) v = v) (hfit : fits (ty0 k) v = true) (hlen : k < fs.length) (hset : (ww σ).set q0 (a, .inr (ci, fs.set k v)) = ww σ') (hd : decode cc pc = .ok (.putfield index, 3))
    (kk : ∀ (σ1 : S) (H' : Heap) (locs' : List Loc), σ1 = σ' → WI D ww ty A s σ1 H' locs' → W p l e R s m args below meth c H' locs' cells slots Q (F0 m (pc + 3) ls rest)) : W p l e R s m args below meth c H locs cells slots Q (F0 m pc ls (v :: .ref a :: rest)) := by
  obtain ⟨hx, hb, hml, hown, hts⟩ := C
  refine va_put hx hb hts hin ty0 hty hnm hown hW.2.2.1 hW.1 hW.2.1 hW.2.2.2.1 q0 he hc k hk (hts _ hl) (fun x h => by rw [href]; exact h) hfin (hty k hk) hn hfit hlen hd (fun H1 locs1 hP hD hS => ?_)
  rw [hset] at hP hD
  exact kk σ' H1 locs1 rfl ⟨hP, hD, hW.2.2.1, hS, hW.2.2.2.2⟩
theorem w_ald (C : CallFix p m c cc nL s args lwg own) (hW : WI D ww ty A s σ H locs) {q0 t0 a n : Nat} {cA : ClassId} {f : Nat → Int32} {i : Int32} (he : (ww σ)[q0]? = some (a, .inl (cA, n, .inl f))) (ht : ty[t0]? = some (cA, .int)) (hin : vp_in i n) (hd : decode cc pc = .ok (.iaload, 1))
    (kk : W p l e R s m args below meth c H locs cells slots Q (F0 m (pc + 1) ls (.int (f i.toNatClampNeg) :: rest))) : W p l e R s m args below meth c H locs cells slots Q (F0 m pc ls (.int i :: .ref a :: rest)) :=
  va_iald C.1 C.2.1 hW.2.2.1 hW.1 q0 t0 he ht hin hd kk
theorem w_zald (C : CallFix p m c cc nL s args lwg own) (hW : WI D ww ty A s σ H locs) {q0 t0 a n : Nat} {cA : ClassId} {f : Nat → Int32} {i : Int32} (he : (ww σ)[q0]? = some (a, .inl (cA, n, .inl f))) (ht : ty[t0]? = some (cA, .boolean)) (hin : vp_in i n) (hd : decode cc pc = .ok (.baload, 1))
    (kk : W p l e R s m args below meth c H locs cells slots Q (F0 m (pc + 1) ls (.int (f i.toNatClampNeg) :: rest))) : W p l e R s m args below meth c H locs cells slots Q (F0 m pc ls (.int i :: .ref a :: rest)) :=
  va_zald C.1 C.2.1 hW.2.2.1 hW.1 q0 t0 he ht hin hd kk
theorem w_bald (C : CallFix p m c cc nL s args lwg own) (hW : WI D ww ty A s σ H locs) {q0 t0 a n : Nat} {cA : ClassId} {f : Nat → Int32} {i : Int32} (he : (ww σ)[q0]? = some (a, .inl (cA, n, .inl f))) (ht : ty[t0]? = some (cA, .byte)) (hin : vp_in i n) (hd : decode cc pc = .ok (.baload, 1))
    (kk : W p l e R s m args below meth c H locs cells slots Q (F0 m (pc + 1) ls (.int (f i.toNatClampNeg) :: rest))) : W p l e R s m args below meth c H locs cells slots Q (F0 m pc ls (.int i :: .ref a :: rest)) :=
  va_bald C.1 C.2.1 hW.2.2.1 hW.1 q0 t0 he ht hin hd kk
theorem w_ast (C : CallFix p m c cc nL s args lwg own) (hW : WI D ww ty A s σ H locs) {q0 t0 a n : Nat} {cA : ClassId} {f : Nat → Int32} {i x : Int32} (he : (ww σ)[q0]? = some (a, .inl (cA, n, .inl f))) (ht : ty[t0]? = some (cA, .int)) (hset : (ww σ).set q0 (a, .inl (cA, n, .inl (upd f i.toNatClampNeg x))) = ww σ') (hin : vp_in i n) (hd : decode cc pc = .ok (.iastore, 1))
    (kk : ∀ (σ1 : S) (H' : Heap) (locs' : List Loc), σ1 = σ' → WI D ww ty A s σ1 H' locs' → W p l e R s m args below meth c H' locs' cells slots Q (F0 m (pc + 1) ls rest)) : W p l e R s m args below meth c H locs cells slots Q (F0 m pc ls (.int x :: .int i :: .ref a :: rest)) := by
  refine va_iast C.1 C.2.1 hW.2.2.1 hW.1 hW.2.1 hW.2.2.2.1 q0 t0 he ht hin hd (fun H1 locs1 hP hD hS => ?_)
  rw [hset] at hP hD
  exact kk σ' H1 locs1 rfl ⟨hP, hD, hW.2.2.1, hS, hW.2.2.2.2⟩
theorem w_zast (C : CallFix p m c cc nL s args lwg own) (hW : WI D ww ty A s σ H locs) {q0 t0 a n : Nat} {cA : ClassId} {f : Nat → Int32} {i x : Int32} (he : (ww σ)[q0]? = some (a, .inl (cA, n, .inl f))) (ht : ty[t0]? = some (cA, .boolean)) (hset : (ww σ).set q0 (a, .inl (cA, n, .inl (upd f i.toNatClampNeg (vp_nar .boolean x)))) = ww σ') (hin : vp_in i n) (hd : decode cc pc = .ok (.bastore, 1))
    (kk : ∀ (σ1 : S) (H' : Heap) (locs' : List Loc), σ1 = σ' → WI D ww ty A s σ1 H' locs' → W p l e R s m args below meth c H' locs' cells slots Q (F0 m (pc + 1) ls rest)) : W p l e R s m args below meth c H locs cells slots Q (F0 m pc ls (.int x :: .int i :: .ref a :: rest)) := by
  refine va_zast C.1 C.2.1 hW.2.2.1 hW.1 hW.2.1 hW.2.2.2.1 q0 t0 he ht hin hd (fun H1 locs1 hP hD hS => ?_)
  rw [hset] at hP hD
  exact kk σ' H1 locs1 rfl ⟨hP, hD, hW.2.2.1, hS, hW.2.2.2.2⟩
theorem w_bast (C : CallFix p m c cc nL s args lwg own) (hW : WI D ww ty A s σ H locs) {q0 t0 a n : Nat} {cA : ClassId} {f : Nat → Int32} {i x : Int32} (he : (ww σ)[q0]? = some (a, .inl (cA, n, .inl f))) (ht : ty[t0]? = some (cA, .byte)) (hset : (ww σ).set q0 (a, .inl (cA, n, .inl (upd f i.toNatClampNeg (vp_nar .byte x)))) = ww σ') (hin : vp_in i n) (hd : decode cc pc = .ok (.bastore, 1))
    (kk : ∀ (σ1 : S) (H' : Heap) (locs' : List Loc), σ1 = σ' → WI D ww ty A s σ1 H' locs' → W p l e R s m args below meth c H' locs' cells slots Q (F0 m (pc + 1) ls rest)) : W p l e R s m args below meth c H locs cells slots Q (F0 m pc ls (.int x :: .int i :: .ref a :: rest)) := by
  refine va_bast C.1 C.2.1 hW.2.2.1 hW.1 hW.2.1 hW.2.2.2.1 q0 t0 he ht hin hd (fun H1 locs1 hP hD hS => ?_)
  rw [hset] at hP hD
  exact kk σ' H1 locs1 rfl ⟨hP, hD, hW.2.2.1, hS, hW.2.2.2.2⟩
end BASE
end
section
/-! references as answers, nest mates, virtual calls, arrays of references, the JDK's own methods -/
section BASE2
variable {p : Program} {l : Launch} {e : Env} {R : Room} {s : State} {m : MethodId} {args : Array Value} {below : List Frame} {meth : Method} {c : Code} {H : Heap} {locs : List Loc} {cells slots : Nat} {Q : State → Prop}
variable {cc : ByteArray} {pc : Nat} {ls : Array Slot} {rest : List Value} {own : String} {nL : Nat}
variable {S : Type} {D : va_G} {ww : S → va_W} {ty : List (ClassId × FieldType)} {A : Nat → Prop} {σ σ' : S}
theorem w_enterF {y : MethodName} {b : ByteArray} {n : Nat} {ret : Option FieldType} {rm : Room} {Av : List Value} {mc ms sz : Nat} {Qc : Array Value → State → Outcome → State → Prop} (hy : plainFor y = true) (hn : (lg_sl Av).length ≤ n)
    (body : ∀ (p : Program) (e : Env) (s : State) (m : MethodId) (args : Array Value) (below : List Frame) (meth : Method) (c : Code) (ls : Array Slot), CallFix p m c b n s args lwg y.cls → meth.sig.returnType = ret → meth.locks = false → meth.name = y.name → s.heap.size = sz →
      WI D ww ty (va_A (ww σ) sz) s σ s.heap [] → lv_has ls n (lv_args 0 Av) → W p l e rm s m args below meth c s.heap [] 0 0 (MQ below Qc args s mc ms (va_A (ww σ) sz)) (F0 m 0 ls [])) :
    Met l y (cws y b n ret) rm (va_Pc Av (WP D ww ty σ sz)) Qc mc ms (va_A (ww σ) sz) := by
  refine va_MetF (cc := b) (maxL := n) (ret := ret) hy rfl ?_
  intro p e s m args below meth c s₁ B hml hv
  obtain ⟨rfl, hsz, hP, hK, hD, hN⟩ := hv
  have hts := atoms_spec (ws := cws y b n ret) B.pre
  have hl := lv_entry Av (n := n) hn
  rw [lg_entry_eq]
  exact body p e s m _ below meth c _ ⟨B.exec, B.bytes, hml, findClass_of_methodNamed B.named, fun w hw => hts w (List.mem_cons_of_mem _ hw)⟩ B.returns B.notSynchronized (name_of_methodNamed B.named B.method).1 hsz ⟨hP, hD.self, hK, va_S.rf, fun q h => Or.inr (by rw [← hsz]; exact h), hN⟩ hl
/-- an answer that is a reference, told by a mathematical value -/
def QcR {S α : Type} (f : α → Value) (post : α → S → Prop) (B : S → State → Prop) (A : Nat → Prop) : Array Value → State → Outcome → State → Prop := fun _ st oc t => (∃ (r : α) (u : S), oc = .returned (some (f r)) ∧ post r u ∧ B u t) ∧ va_F A st t
theorem w_aret {α : Type} {f : α → Value} (C : CallFix p m c cc nL s args lwg own) {sz : Nat} (hs : s.heap.size = sz) {rt : FieldType} (hr : meth.sig.returnType = some rt) (hrt : (∃ n, rt = .object n) ∨ ∃ t, rt = .array t) (hk : meth.locks = false) (hW : WI D ww ty (va_A (ww σ) sz) s σ' H locs) {post : α → S → Prop} {r : α} (hd : decode cc pc = .ok (.areturn, 1)) (hv : f r = .null ∨ ∃ a, f r = .ref a) (hq : post r σ') :
    W p l e R s m args below meth c H locs cells slots (MQ below (QcR f post (WB D ww ty σ sz) (va_A (ww σ) sz)) args s cells slots (va_A (ww σ) sz)) (F0 m pc ls [f r]) := by
  obtain ⟨hP, hD, hK, hS, -⟩ := hW
  exact W.aret (v := f r) C.1 C.2.1 hr hrt hv (fun t ht hW => ⟨⟨r, σ', rfl, hq, by rw [ht]; exact hP, va_K.moved hW.alike hK, hD⟩, hS.F ht⟩) hS.2.2 hd
theorem w_callg {α : Type} {f : α → Value} (hW : WI D ww ty A s σ H locs) {mc ms : Nat} {st : List Value} {post : α → S → Prop} {a : Array Value} (hr : va_Run p l e R s m args below meth c H locs cells slots mc ms (F0 m pc ls st) rest (QcR f post (WB D ww ty σ H.size) (va_A (ww σ) H.size) a) (va_A (ww σ) H.size))
    (kk : ∀ (r : α) (σ' : S) (H' : Heap) (locs' : List Loc), post r σ' → WI D ww ty A s σ' H' locs' → W p l e R s m args below meth c H' locs' (cells + mc) (slots + ms) Q (F0 m (pc + 3) ls (f r :: rest))) : W p l e R s m args below meth c H locs cells slots Q (F0 m pc ls st) := by
  intro T hT X
  obtain ⟨v, st₀, t, T', L, h0, X', hL, e1, e2, ⟨⟨r, u, hv, hp, hb⟩, hz, hk⟩, st⟩ := hr T hT X
  cases hv
  rw [h0] at hz hk
  have hS := hW.2.2.2.1
  have hA := w_sub hW
  have hS' : va_S A s.heap T'.heap (locs ++ L) := ⟨Nat.le_trans hS.1 (by rw [e1]; exact hz), fun q h1 h2 => by rw [e1, hk q (Nat.lt_of_lt_of_le h1 hS.1) (fun z => h2 (hA q z))]; exact hS.2.1 q h1 h2, fun q hq => by
      rcases List.mem_append.mp hq with h | h
      · exact hS.2.2 q h
      · exact hA _ (hL q h)⟩
  obtain ⟨t2, a1, b1⟩ := kk r u T'.heap (locs ++ L) hp (w_back hW e1.symm (by rw [← e2]; exact X'.warmed.alike) hb hS') T' rfl X'
  exact ⟨t2, st t2 a1, b1⟩
theorem w_runSN (C : CallFix p m c cc nL s args lwg own) (hW : WI D ww ty A s σ H locs) {y : MethodName} {b : ByteArray} {n idx np : Nat} {ret : Option FieldType} {rm : Room} {As : List Value} {mc ms : Nat} {Qc : Array Value → State → Outcome → State → Prop} {host : String}
    (hM : Met l y (cws y b n ret) rm (va_Pc As (WP D ww ty σ H.size)) Qc mc ms (va_A (ww σ) H.size)) (h1 : Cond.code y b n ret ∈ lwg) (h2 : Cond.initialized y.cls ∈ lwg) (h3 : va_Nw (.methodLinkNest own idx y host) s) (hi : Cond.static y ∈ lwg)
    (hd : y.cls ≠ "java/lang/invoke/MethodHandle" ∧ y.cls ≠ "java/lang/invoke/VarHandle" ∧ (parseMethodDescriptor y.desc).map (fun d => d.parameters.length) = some np) (hrm : rm.cells = mc ∧ rm.slots = ms) (hR : rm.frames + 1 ≤ R.frames ∧ 8 + (n + 11) + rm.locals ≤ R.locals)
    (hn : As.length = np) (hls : ls.size = nL) {st : List Value} (hst : st = As.reverse ++ rest) (hro : (rest.map fun v => v.category).sum ≤ 8) (hdg : decode cc pc = .ok (.invokestatic idx, 3)) (hf : cells + mc ≤ R.cells ∧ slots + ms ≤ R.slots) :
    va_Run p l e R s m args below meth c H locs cells slots mc ms (F0 m pc ls st) rest (Qc As.toArray) (va_A (ww σ) H.size) := by
  obtain ⟨hx, hb, hml, hown, hts⟩ := C
  exact va_runSN (host := host) ⟨hx, hb, hml, hown, hts⟩ hM ⟨va_cnB np hts (cws_good h1) rfl hrm.1 hrm.2 h3 (hts _ h2) hd hR, hts _ hi, trivial⟩ ⟨w_blind, fun U hU hV => w_pre hW U hU hV⟩ rfl hn hls hst (lv_room hro) hdg hf
theorem goodU {own Cn owner : String} {idx : Nat} {x y : MethodName} {b : ByteArray} {n : Nat} {ret : Option FieldType} (h0 : Cond.methodLink own idx x ∈ lwg) (h1 : Cond.sameMethod x.cls owner x.name x.desc ∈ lwg) (h2 : Cond.selects Cn x y ∈ lwg) (h3 : Cond.instanceMethod y ∈ lwg) (h4 : Cond.initialized y.cls ∈ lwg) (h5 : Cond.code y b n ret ∈ lwg) : GoodIn lwg (va_wsU own idx Cn owner x y (cws y b n ret)) := fun w hw => by
  have hm : w ∈ lwg := by
    rcases List.mem_append.mp hw with q | q
    · simp only [List.mem_cons, List.not_mem_nil, or_false] at q
      rcases q with rfl | rfl | rfl | rfl | rfl <;> assumption
    · exact (cws_good h5 w q).1
  exact ⟨hm, good_of_word (List.all_eq_true.mp lwG w hm)⟩
theorem goodO {own Cn owner : String} {idx : Nat} {x y : MethodName} {b : ByteArray} {n : Nat} {ret : Option FieldType} (h0 : Cond.methodLink own idx x ∈ lwg) (h1 : Cond.sameMethod x.cls owner x.name x.desc ∈ lwg) (h1b : Cond.instanceMethod ⟨owner, x.name, x.desc⟩ ∈ lwg) (h2 : Cond.selects Cn x y ∈ lwg) (h3 : Cond.instanceMethod y ∈ lwg) (h4 : Cond.initialized y.cls ∈ lwg) (h5 : Cond.code y b n ret ∈ lwg) : GoodIn lwg (va_wsO own idx Cn owner x y (cws y b n ret)) := fun w hw => by
  have hm : w ∈ lwg := by
    rcases List.mem_append.mp hw with q | q
    · simp only [List.mem_cons, List.not_mem_nil, or_false] at q
      rcases q with rfl | rfl | rfl | rfl | rfl | rfl <;> assumption
    · exact (cws_good h5 w q).1
  exact ⟨hm, good_of_word (List.all_eq_true.mp lwG w hm)⟩
theorem w_runU (C : CallFix p m c cc nL s args lwg own) (hW : WI D ww ty A s σ H locs) {x y : MethodName} {b : ByteArray} {n idx np q0 ci a : Nat} {ret : Option FieldType} {rm : Room} {As : List Value} {mc ms : Nat} {Qc : Array Value → State → Outcome → State → Prop} {fs : List Value} {vc : vw_C} {owner Cn : String}
    (hM : Met l y (cws y b n ret) rm (va_Pc (.ref a :: As) (WP D ww ty σ H.size)) Qc mc ms (va_A (ww σ) H.size)) (hcu : va_CU R s args own Cn owner idx x y b n ret (cws y b n ret) rm mc ms np)
    (hcl : vwCl[ci]? = some vc) (hvc : vc.1 = Cn) (he : (ww σ)[q0]? = some (a, .inr (ci, fs))) (hn : As.length = np) (hls : ls.size = nL) {st : List Value} (hst : st = As.reverse ++ .ref a :: rest) (hro : (rest.map fun v => v.category).sum ≤ 8) (hdg : decode cc pc = .ok (.invokevirtual idx, 3)) (hf : cells + mc ≤ R.cells ∧ slots + ms ≤ R.slots) :
    va_Run p l e R s m args below meth c H locs cells slots mc ms (F0 m pc ls st) rest (Qc (Value.ref a :: As).toArray) (va_A (ww σ) H.size) := by
  refine va_runU (C := Cn) (owner := owner) C hM hcu ⟨w_blind, ?_, fun U hU hV => w_pre hW U hU hV⟩ rfl hn hls hst (lv_room hro) hdg hf
  rw [← hvc]
  exact va_recv hW.2.2.1 hW.1 hcl he
theorem w_aldq (C : CallFix p m c cc nL s args lwg own) (hW : WI D ww ty A s σ H locs) {q0 t0 a n : Nat} {cA : ClassId} {E : String} {f : Nat → Option Nat} {i : Int32} (he : (ww σ)[q0]? = some (a, .inl (cA, n, .inr (.inr (.inr (.inr f)))))) (ht : ty[t0]? = some (cA, .object E)) (hin : vp_in i n) (hd : decode cc pc = .ok (.aaload, 1))
    (kk : W p l e R s m args below meth c H locs cells slots Q (F0 m (pc + 1) ls (va_rf (f i.toNatClampNeg) :: rest))) : W p l e R s m args below meth c H locs cells slots Q (F0 m pc ls (.int i :: .ref a :: rest)) :=
  va_aldq C.1 C.2.1 hW.2.2.1 hW.1 q0 t0 he ht hin hd kk
theorem w_alda (C : CallFix p m c cc nL s args lwg own) (hW : WI D ww ty A s σ H locs) {q0 t0 a n : Nat} {cA : ClassId} {ey : FieldType} {f : Nat → Option Nat} {i : Int32} (he : (ww σ)[q0]? = some (a, .inl (cA, n, .inr (.inr (.inr (.inr f)))))) (ht : ty[t0]? = some (cA, .array ey)) (hin : vp_in i n) (hd : decode cc pc = .ok (.aaload, 1))
    (kk : W p l e R s m args below meth c H locs cells slots Q (F0 m (pc + 1) ls (va_rf (f i.toNatClampNeg) :: rest))) : W p l e R s m args below meth c H locs cells slots Q (F0 m pc ls (.int i :: .ref a :: rest)) := by
  have hlt : i.toNatClampNeg < n := Nat.not_le.mp fun q => hin (Or.inr q)
  exact W.aald (v := va_rf (f i.toNatClampNeg)) (ty := .array ey) C.1 C.2.1 (hW.1 q0 _ he) ((hW.2.2.1.2 t0 _ ht).1 n (fun j => va_rf (f j))) rfl (fun q => by cases q) (by show ¬ (i < 0 ∨ (arrV _ _ _).slots.size ≤ _); rw [arrV_size]; exact hin) (by show (arrV _ _ _).slots[_]? = _; rw [arrV_read _ _ hlt]) rfl rfl hd kk
theorem w_cpy (C : CallFix p m c cc nL s args lwg own) (hW : WI D ww ty A s σ H locs) {index : Nat} (hlink : Cond.methodLink own index arraycopyName ∈ lwg) (hnat : Cond.native arraycopyName ∈ lwg) (hstat : Cond.static arraycopyName ∈ lwg) (hini : Cond.initialized "java/lang/System" ∈ lwg)
    {q0 q1 t0 a0 a1 n0 n1 : Nat} {cA : ClassId} {f h : Nat → Int32} {N : Nat} {n : Int32} (he0 : (ww σ)[q0]? = some (a0, .inl (cA, n0, .inl f))) (he1 : (ww σ)[q1]? = some (a1, .inl (cA, n1, .inl h))) (ht : ty[t0]? = some (cA, .int)) (hn : ¬ n < 0) (hN : n.toNatClampNeg = N) (h0 : N ≤ n0) (h1 : N ≤ n1)
    (hset : (ww σ).set q1 (a1, .inl (cA, n1, .inl (va_cpy f h 0 0 N))) = ww σ') (hls : ls.size = nL) (hframes : 1 ≤ R.frames) (hlocals : (rest.map fun v => v.category).sum + (nativeFrameWords "java/lang/System" "arraycopy" 5 + 11) ≤ R.locals) (hd : decode cc pc = .ok (.invokestatic index, 3))
    (kk : ∀ (σ1 : S) (H' : Heap) (locs' : List Loc), σ1 = σ' → WI D ww ty A s σ1 H' locs' → W p l e R s m args below meth c H' locs' cells slots Q (F0 m (pc + 3) ls rest)) : W p l e R s m args below meth c H locs cells slots Q (F0 m pc ls (.int n :: .int 0 :: .ref a1 :: .int 0 :: .ref a0 :: rest)) := by
  obtain ⟨hx, hb, hml, hown, hts⟩ := C
  subst hN
  refine va_copyi hx hb (hml.trans hls.symm) hown (hts _ hlink) (hts _ hnat) (hts _ hstat) (hts _ hini) hW.2.2.1 hW.1 hW.2.1 hW.2.2.2.1 q0 q1 t0 t0 he0 he1 ht ht rfl (by decide) (by decide) hn (by rw [show (0 : Int32).toNatClampNeg = 0 by decide]; omega) (by rw [show (0 : Int32).toNatClampNeg = 0 by decide]; omega) (fun _ _ => rfl) hframes hlocals hd (fun H1 locs1 hP hD hS => ?_)
  rw [show (0 : Int32).toNatClampNeg = 0 by decide, hset] at hP hD
  exact kk σ' H1 locs1 rfl ⟨hP, hD, hW.2.2.1, hS, hW.2.2.2.2⟩
theorem w_mmin (C : CallFix p m c cc nL s args lwg own) {index : Nat} (hlink : Cond.methodLink own index Lib.Math.min.name ∈ lwg) (hstat : Cond.static Lib.Math.min.name ∈ lwg) (hini : Cond.initialized "java/lang/Math" ∈ lwg) (hcode : Cond.code Lib.Math.min.name Lib.Math.min.code 2 (some .int) ∈ lwg) (hls : ls.size = nL) (hframes : 1 ≤ R.frames) (hlocals : (rest.map fun v => v.category).sum + 13 ≤ R.locals) {x y : Int32} (hd : decode cc pc = .ok (.invokestatic index, 3))
    (kk : W p l e R s m args below meth c H locs 0 0 Q (F0 m (pc + 3) ls (.int (if y < x then y else x) :: rest))) : W p l e R s m args below meth c H locs 0 0 Q (F0 m pc ls (.int y :: .int x :: rest)) := by
  obtain ⟨hx, hb, hml, hown, hts⟩ := C
  exact va_mmin hx hb (hml.trans hls.symm) hown (hts _ hlink) (hts _ hstat) (hts _ hini) (hts _ hcode) hframes hlocals (Nat.zero_le _) (Nat.zero_le _) hd kk
theorem w_mmax (C : CallFix p m c cc nL s args lwg own) {index : Nat} (hlink : Cond.methodLink own index Lib.Math.max.name ∈ lwg) (hstat : Cond.static Lib.Math.max.name ∈ lwg) (hini : Cond.initialized "java/lang/Math" ∈ lwg) (hcode : Cond.code Lib.Math.max.name Lib.Math.max.code 2 (some .int) ∈ lwg) (hls : ls.size = nL) (hframes : 1 ≤ R.frames) (hlocals : (rest.map fun v => v.category).sum + 13 ≤ R.locals) {x y : Int32} (hd : decode cc pc = .ok (.invokestatic index, 3))
    (kk : W p l e R s m args below meth c H locs 0 0 Q (F0 m (pc + 3) ls (.int (if x < y then y else x) :: rest))) : W p l e R s m args below meth c H locs 0 0 Q (F0 m pc ls (.int y :: .int x :: rest)) := by
  obtain ⟨hx, hb, hml, hown, hts⟩ := C
  exact va_mmax hx hb (hml.trans hls.symm) hown (hts _ hlink) (hts _ hstat) (hts _ hini) (hts _ hcode) hframes hlocals (Nat.zero_le _) (Nat.zero_le _) hd kk
end BASE2
end
section
/-! the component's world. g: addresses, the hermits and the vows that there are; σ: what changes -/
abbrev HRec : Type := Nat × Fin 5 × Int32 × Int32 × Int32 × Int32
abbrev VRec : Type := Nat × Int32 × Int32 × Int32 × Int32
abbrev XG : Type := va_G × (Nat → Nat) × ClassId × ClassId × ClassId × (Int32 × Nat × { l : List HRec // l.length ≤ 10 }) × (Int32 × Nat × { l : List VRec // l.length ≤ 10 })
abbrev hs (g : XG) : List HRec := g.2.2.2.2.2.1.2.2.1
abbrev vs (g : XG) : List VRec := g.2.2.2.2.2.2.2.2.1
abbrev nH (g : XG) : Nat := (hs g).length
abbrev nV (g : XG) : Nat := (vs g).length
abbrev hR (g : XG) (j : Fin (nH g)) : HRec := (hs g).get j
abbrev vR (g : XG) (v : Fin (nV g)) : VRec := (vs g).get v
abbrev hA (g : XG) (j : Fin (nH g)) : Nat := (hR g j).1
abbrev hK (g : XG) (j : Fin (nH g)) : Fin 5 := (hR g j).2.1
abbrev hF0 (g : XG) (j : Fin (nH g)) : Int32 := (hR g j).2.2.1
abbrev hF1 (g : XG) (j : Fin (nH g)) : Int32 := (hR g j).2.2.2.1
abbrev hF2 (g : XG) (j : Fin (nH g)) : Int32 := (hR g j).2.2.2.2.1
abbrev hF3 (g : XG) (j : Fin (nH g)) : Int32 := (hR g j).2.2.2.2.2
abbrev vA (g : XG) (v : Fin (nV g)) : Nat := (vR g v).1
abbrev vF0 (g : XG) (v : Fin (nV g)) : Int32 := (vR g v).2.1
abbrev vF1 (g : XG) (v : Fin (nV g)) : Int32 := (vR g v).2.2.1
abbrev vF2 (g : XG) (v : Fin (nV g)) : Int32 := (vR g v).2.2.2.1
abbrev vF3 (g : XG) (v : Fin (nV g)) : Int32 := (vR g v).2.2.2.2
/-- the class of a kind, by its place in vwCl -/
def kc (k : Fin 5) : Nat := match k with
  | 0 => 5
  | 1 => 8
  | 2 => 2
  | 3 => 4
  | 4 => 3
abbrev XS : Type := Int32 × (Nat → Int32) × (Nat → Int32) × (Fin 3 → Nat → Int32) × (Fin 3 → Nat → Nat → Int32) × Fin 3 × (Nat → Int32) × (Nat → Nat → Int32) × (Fin 11 → Nat → Int32)
abbrev xK (σ : XS) : Int32 := σ.1
abbrev xP (σ : XS) : Nat → Int32 := σ.2.1
abbrev xS (σ : XS) : Nat → Int32 := σ.2.2.1
abbrev xTI (σ : XS) : Fin 3 → Nat → Int32 := σ.2.2.2.1
abbrev xTB (σ : XS) : Fin 3 → Nat → Nat → Int32 := σ.2.2.2.2.1
abbrev xC (σ : XS) : Fin 3 := σ.2.2.2.2.2.1
abbrev xSI (σ : XS) : Nat → Int32 := σ.2.2.2.2.2.2.1
abbrev xSA (σ : XS) : Nat → Nat → Int32 := σ.2.2.2.2.2.2.2.1
abbrev xR (σ : XS) : Fin 11 → Nat → Int32 := σ.2.2.2.2.2.2.2.2
def fup {n : Nat} {α : Type} (f : Fin n → α) (t : Fin n) (v : α) : Fin n → α := fun u => if u = t then v else f u
def xsK (σ : XS) (v : Int32) : XS := (v, xP σ, xS σ, xTI σ, xTB σ, xC σ, xSI σ, xSA σ, xR σ)
def xsP (σ : XS) (k : Nat) (v : Int32) : XS := (xK σ, upd (xP σ) k v, xS σ, xTI σ, xTB σ, xC σ, xSI σ, xSA σ, xR σ)
def xsS (σ : XS) (i v : Int32) : XS := (xK σ, xP σ, upd (xS σ) i.toNatClampNeg v, xTI σ, xTB σ, xC σ, xSI σ, xSA σ, xR σ)
def xsTI (σ : XS) (t : Fin 3) (k : Nat) (v : Int32) : XS := (xK σ, xP σ, xS σ, fup (xTI σ) t (upd (xTI σ t) k v), xTB σ, xC σ, xSI σ, xSA σ, xR σ)
def xpTB (σ : XS) (t : Fin 3) (k : Nat) (f : Nat → Int32) : XS := (xK σ, xP σ, xS σ, xTI σ, fup (xTB σ) t (va_up (xTB σ t) k f), xC σ, xSI σ, xSA σ, xR σ)
def xsTB (σ : XS) (t : Fin 3) (k : Nat) (i v : Int32) : XS := xpTB σ t k (upd (xTB σ t k) i.toNatClampNeg v)
def xsC (σ : XS) (t : Fin 3) : XS := (xK σ, xP σ, xS σ, xTI σ, xTB σ, t, xSI σ, xSA σ, xR σ)
def xsSI (σ : XS) (k : Nat) (v : Int32) : XS := (xK σ, xP σ, xS σ, xTI σ, xTB σ, xC σ, upd (xSI σ) k v, xSA σ, xR σ)
def xpSA (σ : XS) (k : Nat) (f : Nat → Int32) : XS := (xK σ, xP σ, xS σ, xTI σ, xTB σ, xC σ, xSI σ, va_up (xSA σ) k f, xR σ)
def xsSA (σ : XS) (k : Nat) (i v : Int32) : XS := xpSA σ k (upd (xSA σ k) i.toNatClampNeg v)
def xpR (σ : XS) (c : Fin 11) (f : Nat → Int32) : XS := (xK σ, xP σ, xS σ, xTI σ, xTB σ, xC σ, xSI σ, xSA σ, fup (xR σ) c f)
def xsR (σ : XS) (c : Fin 11) (i v : Int32) : XS := xpR σ c (upd (xR σ c) i.toNatClampNeg v)
abbrev tA (g : XG) (t : Fin 3) : Nat := g.2.1 (5 + 4 * t.val)
abbrev tB (g : XG) (t : Fin 3) (k : Nat) : Nat := g.2.1 (5 + 4 * t.val + 1 + k)
def rC (c : Fin 11) : Nat := if c.val = 0 then 19 else 24 + c.val
abbrev rA (g : XG) (c : Fin 11) : Nat := g.2.1 (rC c)
abbrev tFs (g : XG) (σ : XS) (t : Fin 3) : List Value := [.ref (g.2.1 1), .ref (tB g t 0), .ref (tB g t 1), .ref (tB g t 2), .int (xTI σ t 4), .int (xTI σ t 5)]
abbrev xFs (g : XG) (σ : XS) : List Value := [.ref (g.2.1 1), .ref (g.2.1 2), .ref (g.2.1 3), .ref (tA g 0), .ref (tA g 1), .int (xK σ), .ref (g.2.1 17), .ref (g.2.1 23)]
abbrev pFs (g : XG) (σ : XS) : List Value := [.ref (g.2.1 4), .int (xP σ 1), .int (xP σ 2), .int (xP σ 3), .int (xP σ 4), .int (xP σ 5), .int (xP σ 6), .int (xP σ 7)]
abbrev sFs (g : XG) (σ : XS) : List Value := [.ref (tA g (xC σ)), .ref (g.2.1 18), .int (xSI σ 2), .int (xSI σ 3), .int (xSI σ 4), .int (xSI σ 5), .int (xSI σ 6), .int (xSI σ 7), .ref (rA g 0), .ref (g.2.1 20), .ref (g.2.1 21), .int (xSI σ 11), .int (xSI σ 12), .ref (g.2.1 22)]
abbrev cFs (g : XG) : List Value := [.ref (g.2.1 17), .ref (tA g 2), .ref (g.2.1 24)]
abbrev hlFs (g : XG) : List Value := [.int g.2.2.2.2.2.1.1, .ref g.2.2.2.2.2.1.2.1, .int (nI (nH g))]
abbrev vlFs (g : XG) : List Value := [.int g.2.2.2.2.2.2.1, .ref g.2.2.2.2.2.2.2.1, .int (nI (nV g))]
abbrev hCell (h : HRec) : Nat × va_E := (h.1, .inr (kc h.2.1, [.int h.2.2.1, .int h.2.2.2.1, .int h.2.2.2.2.1, .int h.2.2.2.2.2]))
abbrev vCell (v : VRec) : Nat × va_E := (v.1, .inr (10, [.int v.2.1, .int v.2.2.1, .int v.2.2.2.1, .int v.2.2.2.2]))
abbrev hEl (g : XG) : Nat × va_E := (g.2.2.2.2.2.1.2.1, .inl (g.2.2.2.2.1, 10, .inr (.inr (.inr (.inr (fun i => ((hs g)[i]?).map (fun h => h.1)))))))
abbrev vEl (g : XG) : Nat × va_E := (g.2.2.2.2.2.2.2.1, .inl (g.2.2.2.2.1, 10, .inr (.inr (.inr (.inr (fun i => ((vs g)[i]?).map (fun h => h.1)))))))
abbrev xfix (g : XG) (σ : XS) : va_W := [(g.2.1 0, .inr (11, xFs g σ)),
  (g.2.1 1, .inr (0, hlFs g)),
  (g.2.1 2, .inr (0, vlFs g)),
  (g.2.1 3, .inr (6, pFs g σ)),
  (g.2.1 4, .inl (g.2.2.1, 16, .inl (xS σ))),
  (tA g 0, .inr (9, tFs g σ 0)),
  (tB g 0 0, .inl (g.2.2.1, 10, .inl (xTB σ 0 0))),
  (tB g 0 1, .inl (g.2.2.1, 10, .inl (xTB σ 0 1))),
  (tB g 0 2, .inl (g.2.2.1, 5, .inl (xTB σ 0 2))),
  (tA g 1, .inr (9, tFs g σ 1)),
  (tB g 1 0, .inl (g.2.2.1, 10, .inl (xTB σ 1 0))),
  (tB g 1 1, .inl (g.2.2.1, 10, .inl (xTB σ 1 1))),
  (tB g 1 2, .inl (g.2.2.1, 5, .inl (xTB σ 1 2))),
  (tA g 2, .inr (9, tFs g σ 2)),
  (tB g 2 0, .inl (g.2.2.1, 10, .inl (xTB σ 2 0))),
  (tB g 2 1, .inl (g.2.2.1, 10, .inl (xTB σ 2 1))),
  (tB g 2 2, .inl (g.2.2.1, 5, .inl (xTB σ 2 2))),
  (g.2.1 17, .inr (7, sFs g σ)),
  (g.2.1 18, .inl (g.2.2.1, 5, .inl (xSA σ 1))),
  (rA g 0, .inl (g.2.2.1, 10, .inl (xR σ 0))),
  (g.2.1 20, .inl (g.2.2.1, 10, .inl (xSA σ 9))),
  (g.2.1 21, .inl (g.2.2.1, 10, .inl (xSA σ 10))),
  (g.2.1 22, .inl (g.2.2.1, 5, .inl (xSA σ 13))),
  (g.2.1 23, .inr (1, cFs g)),
  (g.2.1 24, .inl (g.2.2.2.1, 10, .inr (.inr (.inr (.inr (fun i => if i < 10 then some (g.2.1 (25 + i)) else none)))))),
  (rA g 1, .inl (g.2.2.1, 10, .inl (xR σ 1))),
  (rA g 2, .inl (g.2.2.1, 10, .inl (xR σ 2))),
  (rA g 3, .inl (g.2.2.1, 10, .inl (xR σ 3))),
  (rA g 4, .inl (g.2.2.1, 10, .inl (xR σ 4))),
  (rA g 5, .inl (g.2.2.1, 10, .inl (xR σ 5))),
  (rA g 6, .inl (g.2.2.1, 10, .inl (xR σ 6))),
  (rA g 7, .inl (g.2.2.1, 10, .inl (xR σ 7))),
  (rA g 8, .inl (g.2.2.1, 10, .inl (xR σ 8))),
  (rA g 9, .inl (g.2.2.1, 10, .inl (xR σ 9))),
  (rA g 10, .inl (g.2.2.1, 10, .inl (xR σ 10)))]
def xhw (g : XG) : va_W := (if nH g = 0 then [] else [hEl g]) ++ (hs g).map hCell
def xvw (g : XG) : va_W := (if nV g = 0 then [] else [vEl g]) ++ (vs g).map vCell
def xw (g : XG) (σ : XS) : va_W := xfix g σ ++ (xhw g ++ xvw g)
def xty (g : XG) : List (ClassId × FieldType) := [(g.2.2.1, .int), (g.2.2.2.1, .array .int), (g.2.2.2.2.1, .object "java/lang/Object")]
theorem xw_T (g : XG) (σ : XS) (t : Fin 3) : (xw g σ)[5 + 4 * t.val]? = some (tA g t, .inr (9, tFs g σ t)) := by
  obtain ⟨t, ht⟩ := t
  rcases (show t = 0 ∨ t = 1 ∨ t = 2 by omega) with rfl | rfl | rfl <;> rfl
theorem xw_B (g : XG) (σ : XS) (t : Fin 3) (k n : Nat) (h : (k = 0 ∧ n = 10) ∨ (k = 1 ∧ n = 10) ∨ (k = 2 ∧ n = 5)) : (xw g σ)[5 + 4 * t.val + 1 + k]? = some (tB g t k, .inl (g.2.2.1, n, .inl (xTB σ t k))) := by
  obtain ⟨t, ht⟩ := t
  rcases h with ⟨rfl, rfl⟩ | ⟨rfl, rfl⟩ | ⟨rfl, rfl⟩ <;> rcases (show t = 0 ∨ t = 1 ∨ t = 2 by omega) with rfl | rfl | rfl <;> rfl
theorem xw_Bs (g : XG) (σ : XS) (t : Fin 3) (k n : Nat) (f : Nat → Int32) (h : (k = 0 ∧ n = 10) ∨ (k = 1 ∧ n = 10) ∨ (k = 2 ∧ n = 5)) : (xw g σ).set (5 + 4 * t.val + 1 + k) (tB g t k, .inl (g.2.2.1, n, .inl f)) = xw g (xpTB σ t k f) := by
  obtain ⟨t, ht⟩ := t
  rcases h with ⟨rfl, rfl⟩ | ⟨rfl, rfl⟩ | ⟨rfl, rfl⟩ <;> rcases (show t = 0 ∨ t = 1 ∨ t = 2 by omega) with rfl | rfl | rfl <;> rfl
theorem fin11 {P : Fin 11 → Prop} (c : Fin 11) (h0 : P 0) (h1 : P 1) (h2 : P 2) (h3 : P 3) (h4 : P 4) (h5 : P 5) (h6 : P 6) (h7 : P 7) (h8 : P 8) (h9 : P 9) (h10 : P 10) : P c := by
  obtain ⟨c, hc⟩ := c
  rcases (show c = 0 ∨ c = 1 ∨ c = 2 ∨ c = 3 ∨ c = 4 ∨ c = 5 ∨ c = 6 ∨ c = 7 ∨ c = 8 ∨ c = 9 ∨ c = 10 by omega) with rfl | rfl | rfl | rfl | rfl | rfl | rfl | rfl | rfl | rfl | rfl <;> assumption
theorem xw_R (g : XG) (σ : XS) (c : Fin 11) : (xw g σ)[rC c]? = some (rA g c, .inl (g.2.2.1, 10, .inl (xR σ c))) := by
  refine fin11 (P := fun c => (xw g σ)[rC c]? = some (rA g c, .inl (g.2.2.1, 10, .inl (xR σ c)))) c ?_ ?_ ?_ ?_ ?_ ?_ ?_ ?_ ?_ ?_ ?_ <;> rfl
theorem xw_Rs (g : XG) (σ : XS) (c : Fin 11) (f : Nat → Int32) : (xw g σ).set (rC c) (rA g c, .inl (g.2.2.1, 10, .inl f)) = xw g (xpR σ c f) := by
  refine fin11 (P := fun c => (xw g σ).set (rC c) (rA g c, .inl (g.2.2.1, 10, .inl f)) = xw g (xpR σ c f)) c ?_ ?_ ?_ ?_ ?_ ?_ ?_ ?_ ?_ ?_ ?_ <;> rfl
theorem xw_H (g : XG) (σ : XS) (j : Fin (nH g)) : (xw g σ)[36 + j.val]? = some (hCell (hR g j)) := by
  have hj := j.isLt
  have h0 : ¬ nH g = 0 := by omega
  unfold xw xhw
  rw [List.getElem?_append_right (by show 35 ≤ 36 + j.val; omega), if_neg h0]
  show (hEl g :: ((hs g).map hCell) ++ xvw g)[36 + j.val - 35]? = _
  rw [show 36 + j.val - 35 = j.val + 1 by omega]
  show ((hs g).map hCell ++ xvw g)[j.val]? = _
  rw [List.getElem?_append_left (by rw [List.length_map]; exact hj), List.getElem?_map, List.getElem?_eq_getElem hj]
  rfl
theorem xw_E (g : XG) (σ : XS) (h : 0 < nH g) : (xw g σ)[35]? = some (hEl g) := by
  unfold xw xhw
  rw [if_neg (by omega)]
  rfl
theorem xw_V (g : XG) (σ : XS) (v : Fin (nV g)) : ∃ q : Nat, (xw g σ)[q]? = some (vCell (vR g v)) := by
  have hv := v.isLt
  have h0 : ¬ nV g = 0 := by omega
  refine ⟨35 + ((xhw g).length + (1 + v.val)), ?_⟩
  unfold xw
  rw [List.getElem?_append_right (by show 35 ≤ _; omega)]
  rw [show 35 + ((xhw g).length + (1 + v.val)) - (xfix g σ).length = (xhw g).length + (1 + v.val) by show 35 + ((xhw g).length + (1 + v.val)) - 35 = _; omega]
  rw [List.getElem?_append_right (by omega), show (xhw g).length + (1 + v.val) - (xhw g).length = v.val + 1 by omega]
  unfold xvw
  rw [if_neg h0]
  show ((vs g).map vCell)[v.val]? = _
  rw [List.getElem?_map, List.getElem?_eq_getElem hv]
  rfl
theorem xw_F (g : XG) (σ : XS) (h : 0 < nV g) : ∃ q : Nat, (xw g σ)[q]? = some (vEl g) := by
  refine ⟨35 + (xhw g).length, ?_⟩
  unfold xw
  rw [List.getElem?_append_right (by show 35 ≤ _; omega)]
  rw [show 35 + (xhw g).length - (xfix g σ).length = (xhw g).length by show 35 + (xhw g).length - 35 = _; omega]
  rw [List.getElem?_append_right (by omega)]
  unfold xvw
  rw [if_neg (by omega), Nat.sub_self]
  rfl
theorem inLg : ∀ w ∈ u_ws RJx4a65c TJx4a65c 3, w ∈ lwg := lwg_all (by decide +kernel)
theorem inCg : ∀ w ∈ u_ws RX0 TX0 3, w ∈ lwg := lwg_all (by decide +kernel)
theorem inK2g : ∀ w ∈ u_ws RX1 TX1 4, w ∈ lwg := lwg_all (by decide +kernel)
theorem inK4g : ∀ w ∈ u_ws RX2 TX2 4, w ∈ lwg := lwg_all (by decide +kernel)
theorem inK3g : ∀ w ∈ u_ws RX3 TX3 4, w ∈ lwg := lwg_all (by decide +kernel)
theorem inK0g : ∀ w ∈ u_ws RX4 TX4 4, w ∈ lwg := lwg_all (by decide +kernel)
theorem inPg : ∀ w ∈ u_ws RX5 TX5 8, w ∈ lwg := lwg_all (by decide +kernel)
theorem inSg : ∀ w ∈ u_ws RX6 TX6 14, w ∈ lwg := lwg_all (by decide +kernel)
theorem inK1g : ∀ w ∈ u_ws RX7 TX7 4, w ∈ lwg := lwg_all (by decide +kernel)
theorem inTg : ∀ w ∈ u_ws RX8 TX8 6, w ∈ lwg := lwg_all (by decide +kernel)
theorem inVg : ∀ w ∈ u_ws RX9 TX9 4, w ∈ lwg := lwg_all (by decide +kernel)
theorem inXg : ∀ w ∈ u_ws RX10 TX10 8, w ∈ lwg := lwg_all (by decide +kernel)
end
section
/-! rows of the component: printed by a program -/
def arow (i : Int32) : Fin 11 := ⟨(i.toNatClampNeg + 1) % 11, Nat.mod_lt _ (by decide)⟩
abbrev xgS (σ : XS) (i : Int32) : Int32 := xS σ i.toNatClampNeg
abbrev xgT (σ : XS) (t : Fin 3) (k : Nat) (i : Int32) : Int32 := xTB σ t k i.toNatClampNeg
abbrev xgA (σ : XS) (k : Nat) (i : Int32) : Int32 := xSA σ k i.toNatClampNeg
abbrev xgR (σ : XS) (c : Fin 11) (i : Int32) : Int32 := xR σ c i.toNatClampNeg
theorem fin5 {P : Fin 5 → Prop} (c : Fin 5) (h0 : P 0) (h1 : P 1) (h2 : P 2) (h3 : P 3) (h4 : P 4) : P c := by
  obtain ⟨c, hc⟩ := c
  rcases (show c = 0 ∨ c = 1 ∨ c = 2 ∨ c = 3 ∨ c = 4 by omega) with rfl | rfl | rfl | rfl | rfl <;> assumption
section XROWS
variable {p : Program} {l : Launch} {e : Env} {R : Room} {s : State} {m : MethodId} {args : Array Value} {below : List Frame} {meth : Method} {c : Code} {H : Heap} {locs : List Loc} {cells slots : Nat} {Q : State → Prop}
variable {cc : ByteArray} {pc : Nat} {ls : Array Slot} {rest : List Value} {own : String} {nL : Nat}
variable {g : XG} {σ : XS} {A : Nat → Prop}
theorem w_getS (C : CallFix p m c cc nL s args lwg own) {S : Type} {D : va_G} {ww : S → va_W} {ty : List (ClassId × FieldType)} {τ : S} (hW : WI D ww ty A s τ H locs) {ref Cn : String} {T : u_T} {N ci index q0 k a : Nat} {fs : List Value} {v : Value} (hin : ∀ w ∈ u_ws Cn T N, w ∈ lwg) (he : (ww τ)[q0]? = some (a, .inr (ci, fs))) (hc : vwCl[ci]? = some (Cn, T, N)) (hk : k < N) (hl : Cond.fieldLink own index ref (T k).2.1 (T k).2.2.1 ∈ lwg) (href : Cond.sameField ref (T k).1 (T k).2.1 (T k).2.2.1 ∈ lwg) (hv : fs[k]? = some v) (hd : decode cc pc = .ok (.getfield index, 3))
    (kk : W p l e R s m args below meth c H locs cells slots Q (F0 m (pc + 3) ls (v :: rest))) : W p l e R s m args below meth c H locs cells slots Q (F0 m pc ls (.ref a :: rest)) := by
  obtain ⟨hx, hb, hml, hown, hts⟩ := C
  exact va_get hx hb hts hin hown hW.2.2.1 hW.1 q0 he hc k hk (hts _ hl) (fun x h => u_same (hts _ href) x h) hv hd kk
theorem xl_X10_12 : Cond.fieldLink RX10 12 "HermitsSpoon" (TX10 0).2.1 (TX10 0).2.2.1 ∈ lwg := lwg_at 273 (by decide +kernel) rfl
theorem xg_X10_12 (C : CallFix p m c cc nL s args lwg RX10) (hW : WI g.1 (xw g) (xty g) A s σ H locs) (hd : decode cc pc = .ok (.getfield 12, 3)) (kk : W p l e R s m args below meth c H locs cells slots Q (F0 m (pc + 3) ls (.ref (g.2.1 1) :: rest))) : W p l e R s m args below meth c H locs cells slots Q (F0 m pc ls (.ref (g.2.1 0) :: rest)) := w_get C hW inXg (q0 := 0) (ci := 11) (k := 0) rfl rfl (by decide) xl_X10_12 rfl rfl hd kk
theorem xl_X10_16 : Cond.fieldLink RX10 16 "HermitsSpoon" (TX10 1).2.1 (TX10 1).2.2.1 ∈ lwg := lwg_at 274 (by decide +kernel) rfl
theorem xg_X10_16 (C : CallFix p m c cc nL s args lwg RX10) (hW : WI g.1 (xw g) (xty g) A s σ H locs) (hd : decode cc pc = .ok (.getfield 16, 3)) (kk : W p l e R s m args below meth c H locs cells slots Q (F0 m (pc + 3) ls (.ref (g.2.1 2) :: rest))) : W p l e R s m args below meth c H locs cells slots Q (F0 m pc ls (.ref (g.2.1 0) :: rest)) := w_get C hW inXg (q0 := 0) (ci := 11) (k := 1) rfl rfl (by decide) xl_X10_16 rfl rfl hd kk
theorem xl_X10_22 : Cond.fieldLink RX10 22 "HermitsSpoon" (TX10 2).2.1 (TX10 2).2.2.1 ∈ lwg := lwg_at 275 (by decide +kernel) rfl
theorem xg_X10_22 (C : CallFix p m c cc nL s args lwg RX10) (hW : WI g.1 (xw g) (xty g) A s σ H locs) (hd : decode cc pc = .ok (.getfield 22, 3)) (kk : W p l e R s m args below meth c H locs cells slots Q (F0 m (pc + 3) ls (.ref (g.2.1 3) :: rest))) : W p l e R s m args below meth c H locs cells slots Q (F0 m pc ls (.ref (g.2.1 0) :: rest)) := w_get C hW inXg (q0 := 0) (ci := 11) (k := 2) rfl rfl (by decide) xl_X10_22 rfl rfl hd kk
theorem xl_X10_31 : Cond.fieldLink RX10 31 "HermitsSpoon" (TX10 3).2.1 (TX10 3).2.2.1 ∈ lwg := lwg_at 276 (by decide +kernel) rfl
theorem xg_X10_31 (C : CallFix p m c cc nL s args lwg RX10) (hW : WI g.1 (xw g) (xty g) A s σ H locs) (hd : decode cc pc = .ok (.getfield 31, 3)) (kk : W p l e R s m args below meth c H locs cells slots Q (F0 m (pc + 3) ls (.ref (tA g 0) :: rest))) : W p l e R s m args below meth c H locs cells slots Q (F0 m pc ls (.ref (g.2.1 0) :: rest)) := w_get C hW inXg (q0 := 0) (ci := 11) (k := 3) rfl rfl (by decide) xl_X10_31 rfl rfl hd kk
theorem xl_X10_35 : Cond.fieldLink RX10 35 "HermitsSpoon" (TX10 4).2.1 (TX10 4).2.2.1 ∈ lwg := lwg_at 277 (by decide +kernel) rfl
theorem xg_X10_35 (C : CallFix p m c cc nL s args lwg RX10) (hW : WI g.1 (xw g) (xty g) A s σ H locs) (hd : decode cc pc = .ok (.getfield 35, 3)) (kk : W p l e R s m args below meth c H locs cells slots Q (F0 m (pc + 3) ls (.ref (tA g 1) :: rest))) : W p l e R s m args below meth c H locs cells slots Q (F0 m pc ls (.ref (g.2.1 0) :: rest)) := w_get C hW inXg (q0 := 0) (ci := 11) (k := 4) rfl rfl (by decide) xl_X10_35 rfl rfl hd kk
theorem xl_X10_38 : Cond.fieldLink RX10 38 "HermitsSpoon" (TX10 5).2.1 (TX10 5).2.2.1 ∈ lwg := lwg_at 278 (by decide +kernel) rfl
theorem xg_X10_38 (C : CallFix p m c cc nL s args lwg RX10) (hW : WI g.1 (xw g) (xty g) A s σ H locs) (hd : decode cc pc = .ok (.getfield 38, 3)) (kk : W p l e R s m args below meth c H locs cells slots Q (F0 m (pc + 3) ls (.int (xK σ) :: rest))) : W p l e R s m args below meth c H locs cells slots Q (F0 m pc ls (.ref (g.2.1 0) :: rest)) := w_get C hW inXg (q0 := 0) (ci := 11) (k := 5) rfl rfl (by decide) xl_X10_38 rfl rfl hd kk
theorem xp_X10_38 (C : CallFix p m c cc nL s args lwg RX10) (hW : WI g.1 (xw g) (xty g) A s σ H locs) {v : Int32} (hd : decode cc pc = .ok (.putfield 38, 3)) (kk : ∀ (σ1 : XS) (H : Heap) (locs : List Loc), σ1 = xsK σ v → WI g.1 (xw g) (xty g) A s σ1 H locs → W p l e R s m args below meth c H locs cells slots Q (F0 m (pc + 3) ls rest)) : W p l e R s m args below meth c H locs cells slots Q (F0 m pc ls (.int v :: .ref (g.2.1 0) :: rest)) := w_put C hW inXg tyX10 tyX10_ok nmX10 (q0 := 0) (ci := 11) (k := 5) rfl rfl (by decide) xl_X10_38 rfl rfl rfl rfl (Nat.le_of_ble_eq_true rfl) rfl hd kk
theorem xl_X10_47 : Cond.fieldLink RX10 47 "HermitsSpoon" (TX10 6).2.1 (TX10 6).2.2.1 ∈ lwg := lwg_at 279 (by decide +kernel) rfl
theorem xg_X10_47 (C : CallFix p m c cc nL s args lwg RX10) (hW : WI g.1 (xw g) (xty g) A s σ H locs) (hd : decode cc pc = .ok (.getfield 47, 3)) (kk : W p l e R s m args below meth c H locs cells slots Q (F0 m (pc + 3) ls (.ref (g.2.1 17) :: rest))) : W p l e R s m args below meth c H locs cells slots Q (F0 m pc ls (.ref (g.2.1 0) :: rest)) := w_get C hW inXg (q0 := 0) (ci := 11) (k := 6) rfl rfl (by decide) xl_X10_47 rfl rfl hd kk
theorem xl_X10_56 : Cond.fieldLink RX10 56 "HermitsSpoon" (TX10 7).2.1 (TX10 7).2.2.1 ∈ lwg := lwg_at 280 (by decide +kernel) rfl
theorem xg_X10_56 (C : CallFix p m c cc nL s args lwg RX10) (hW : WI g.1 (xw g) (xty g) A s σ H locs) (hd : decode cc pc = .ok (.getfield 56, 3)) (kk : W p l e R s m args below meth c H locs cells slots Q (F0 m (pc + 3) ls (.ref (g.2.1 23) :: rest))) : W p l e R s m args below meth c H locs cells slots Q (F0 m pc ls (.ref (g.2.1 0) :: rest)) := w_get C hW inXg (q0 := 0) (ci := 11) (k := 7) rfl rfl (by decide) xl_X10_56 rfl rfl hd kk
theorem xl_X10_64 : Cond.fieldLink RX10 64 "HermitsSpoon$Page" (TX5 1).2.1 (TX5 1).2.2.1 ∈ lwg := lwg_at 129 (by decide +kernel) rfl
theorem xg_X10_64 (C : CallFix p m c cc nL s args lwg RX10) (hW : WI g.1 (xw g) (xty g) A s σ H locs) (hd : decode cc pc = .ok (.getfield 64, 3)) (kk : W p l e R s m args below meth c H locs cells slots Q (F0 m (pc + 3) ls (.int (xP σ 1) :: rest))) : W p l e R s m args below meth c H locs cells slots Q (F0 m pc ls (.ref (g.2.1 3) :: rest)) := w_get C hW inPg (q0 := 3) (ci := 6) (k := 1) rfl rfl (by decide) xl_X10_64 rfl rfl hd kk
theorem xp_X10_64 (C : CallFix p m c cc nL s args lwg RX10) (hW : WI g.1 (xw g) (xty g) A s σ H locs) {v : Int32} (hd : decode cc pc = .ok (.putfield 64, 3)) (kk : ∀ (σ1 : XS) (H : Heap) (locs : List Loc), σ1 = xsP σ 1 v → WI g.1 (xw g) (xty g) A s σ1 H locs → W p l e R s m args below meth c H locs cells slots Q (F0 m (pc + 3) ls rest)) : W p l e R s m args below meth c H locs cells slots Q (F0 m pc ls (.int v :: .ref (g.2.1 3) :: rest)) := w_put C hW inPg tyX5 tyX5_ok nmX5 (q0 := 3) (ci := 6) (k := 1) rfl rfl (by decide) xl_X10_64 rfl rfl rfl rfl (Nat.le_of_ble_eq_true rfl) rfl hd kk
theorem xl_X10_74 : Cond.fieldLink RX10 74 "HermitsSpoon$Page" (TX5 2).2.1 (TX5 2).2.2.1 ∈ lwg := lwg_at 132 (by decide +kernel) rfl
theorem xg_X10_74 (C : CallFix p m c cc nL s args lwg RX10) (hW : WI g.1 (xw g) (xty g) A s σ H locs) (hd : decode cc pc = .ok (.getfield 74, 3)) (kk : W p l e R s m args below meth c H locs cells slots Q (F0 m (pc + 3) ls (.int (xP σ 2) :: rest))) : W p l e R s m args below meth c H locs cells slots Q (F0 m pc ls (.ref (g.2.1 3) :: rest)) := w_get C hW inPg (q0 := 3) (ci := 6) (k := 2) rfl rfl (by decide) xl_X10_74 rfl rfl hd kk
theorem xl_X10_77 : Cond.fieldLink RX10 77 "HermitsSpoon$Page" (TX5 3).2.1 (TX5 3).2.2.1 ∈ lwg := lwg_at 134 (by decide +kernel) rfl
theorem xg_X10_77 (C : CallFix p m c cc nL s args lwg RX10) (hW : WI g.1 (xw g) (xty g) A s σ H locs) (hd : decode cc pc = .ok (.getfield 77, 3)) (kk : W p l e R s m args below meth c H locs cells slots Q (F0 m (pc + 3) ls (.int (xP σ 3) :: rest))) : W p l e R s m args below meth c H locs cells slots Q (F0 m pc ls (.ref (g.2.1 3) :: rest)) := w_get C hW inPg (q0 := 3) (ci := 6) (k := 3) rfl rfl (by decide) xl_X10_77 rfl rfl hd kk
theorem xl_X10_116 : Cond.fieldLink RX10 116 "HermitsSpoon$Table" (TX8 1).2.1 (TX8 1).2.2.1 ∈ lwg := lwg_at 171 (by decide +kernel) rfl
theorem xg_X10_116 (C : CallFix p m c cc nL s args lwg RX10) (hW : WI g.1 (xw g) (xty g) A s σ H locs) {t : Fin 3} (hd : decode cc pc = .ok (.getfield 116, 3)) (kk : W p l e R s m args below meth c H locs cells slots Q (F0 m (pc + 3) ls (.ref (tB g t 0) :: rest))) : W p l e R s m args below meth c H locs cells slots Q (F0 m pc ls (.ref (tA g t) :: rest)) := w_get C hW inTg (q0 := 5 + 4 * t.val) (ci := 9) (k := 1) (xw_T g σ t) rfl (by decide) xl_X10_116 rfl rfl hd kk
theorem xl_X10_144 : Cond.fieldLink RX10 144 "HermitsSpoon$Table" (TX8 2).2.1 (TX8 2).2.2.1 ∈ lwg := lwg_at 175 (by decide +kernel) rfl
theorem xg_X10_144 (C : CallFix p m c cc nL s args lwg RX10) (hW : WI g.1 (xw g) (xty g) A s σ H locs) {t : Fin 3} (hd : decode cc pc = .ok (.getfield 144, 3)) (kk : W p l e R s m args below meth c H locs cells slots Q (F0 m (pc + 3) ls (.ref (tB g t 1) :: rest))) : W p l e R s m args below meth c H locs cells slots Q (F0 m pc ls (.ref (tA g t) :: rest)) := w_get C hW inTg (q0 := 5 + 4 * t.val) (ci := 9) (k := 2) (xw_T g σ t) rfl (by decide) xl_X10_144 rfl rfl hd kk
theorem xl_X10_147 : Cond.fieldLink RX10 147 "HermitsSpoon$Table" (TX8 3).2.1 (TX8 3).2.2.1 ∈ lwg := lwg_at 178 (by decide +kernel) rfl
theorem xg_X10_147 (C : CallFix p m c cc nL s args lwg RX10) (hW : WI g.1 (xw g) (xty g) A s σ H locs) {t : Fin 3} (hd : decode cc pc = .ok (.getfield 147, 3)) (kk : W p l e R s m args below meth c H locs cells slots Q (F0 m (pc + 3) ls (.ref (tB g t 2) :: rest))) : W p l e R s m args below meth c H locs cells slots Q (F0 m pc ls (.ref (tA g t) :: rest)) := w_get C hW inTg (q0 := 5 + 4 * t.val) (ci := 9) (k := 3) (xw_T g σ t) rfl (by decide) xl_X10_147 rfl rfl hd kk
theorem xl_X10_150 : Cond.fieldLink RX10 150 "HermitsSpoon$Table" (TX8 4).2.1 (TX8 4).2.2.1 ∈ lwg := lwg_at 181 (by decide +kernel) rfl
theorem xg_X10_150 (C : CallFix p m c cc nL s args lwg RX10) (hW : WI g.1 (xw g) (xty g) A s σ H locs) {t : Fin 3} (hd : decode cc pc = .ok (.getfield 150, 3)) (kk : W p l e R s m args below meth c H locs cells slots Q (F0 m (pc + 3) ls (.int (xTI σ t 4) :: rest))) : W p l e R s m args below meth c H locs cells slots Q (F0 m pc ls (.ref (tA g t) :: rest)) := w_get C hW inTg (q0 := 5 + 4 * t.val) (ci := 9) (k := 4) (xw_T g σ t) rfl (by decide) xl_X10_150 rfl rfl hd kk
theorem xp_X10_150 (C : CallFix p m c cc nL s args lwg RX10) (hW : WI g.1 (xw g) (xty g) A s σ H locs) {t : Fin 3} {v : Int32} (hd : decode cc pc = .ok (.putfield 150, 3)) (kk : ∀ (σ1 : XS) (H : Heap) (locs : List Loc), σ1 = xsTI σ t 4 v → WI g.1 (xw g) (xty g) A s σ1 H locs → W p l e R s m args below meth c H locs cells slots Q (F0 m (pc + 3) ls rest)) : W p l e R s m args below meth c H locs cells slots Q (F0 m pc ls (.int v :: .ref (tA g t) :: rest)) := w_put C hW inTg tyX8 tyX8_ok nmX8 (q0 := 5 + 4 * t.val) (ci := 9) (k := 4) (xw_T g σ t) rfl (by decide) xl_X10_150 rfl rfl rfl rfl (Nat.le_of_ble_eq_true rfl) (by obtain ⟨t, ht⟩ := t; rcases (show t = 0 ∨ t = 1 ∨ t = 2 by omega) with rfl | rfl | rfl <;> rfl) hd kk
theorem xl_X10_153 : Cond.fieldLink RX10 153 "HermitsSpoon$Table" (TX8 5).2.1 (TX8 5).2.2.1 ∈ lwg := lwg_at 183 (by decide +kernel) rfl
theorem xg_X10_153 (C : CallFix p m c cc nL s args lwg RX10) (hW : WI g.1 (xw g) (xty g) A s σ H locs) {t : Fin 3} (hd : decode cc pc = .ok (.getfield 153, 3)) (kk : W p l e R s m args below meth c H locs cells slots Q (F0 m (pc + 3) ls (.int (xTI σ t 5) :: rest))) : W p l e R s m args below meth c H locs cells slots Q (F0 m pc ls (.ref (tA g t) :: rest)) := w_get C hW inTg (q0 := 5 + 4 * t.val) (ci := 9) (k := 5) (xw_T g σ t) rfl (by decide) xl_X10_153 rfl rfl hd kk
theorem xp_X10_153 (C : CallFix p m c cc nL s args lwg RX10) (hW : WI g.1 (xw g) (xty g) A s σ H locs) {t : Fin 3} {v : Int32} (hv : isB v) (hd : decode cc pc = .ok (.putfield 153, 3)) (kk : ∀ (σ1 : XS) (H : Heap) (locs : List Loc), σ1 = xsTI σ t 5 v → WI g.1 (xw g) (xty g) A s σ1 H locs → W p l e R s m args below meth c H locs cells slots Q (F0 m (pc + 3) ls rest)) : W p l e R s m args below meth c H locs cells slots Q (F0 m pc ls (.int v :: .ref (tA g t) :: rest)) := w_put C hW inTg tyX8 tyX8_ok nmX8 (q0 := 5 + 4 * t.val) (ci := 9) (k := 5) (xw_T g σ t) rfl (by decide) xl_X10_153 rfl rfl (isB_nar hv) (isB_fit hv) (Nat.le_of_ble_eq_true rfl) (by obtain ⟨t, ht⟩ := t; rcases (show t = 0 ∨ t = 1 ∨ t = 2 by omega) with rfl | rfl | rfl <;> rfl) hd kk
theorem xl_X10_168 : Cond.fieldLink RX10 168 "HermitsSpoon$Sitting" (TX6 8).2.1 (TX6 8).2.2.1 ∈ lwg := lwg_at 217 (by decide +kernel) rfl
theorem xg_X10_168 (C : CallFix p m c cc nL s args lwg RX10) (hW : WI g.1 (xw g) (xty g) A s σ H locs) (hd : decode cc pc = .ok (.getfield 168, 3)) (kk : W p l e R s m args below meth c H locs cells slots Q (F0 m (pc + 3) ls (.ref (rA g 0) :: rest))) : W p l e R s m args below meth c H locs cells slots Q (F0 m pc ls (.ref (g.2.1 17) :: rest)) := w_get C hW inSg (q0 := 17) (ci := 7) (k := 8) rfl rfl (by decide) xl_X10_168 rfl rfl hd kk
theorem xl_X10_174 : Cond.fieldLink RX10 174 "HermitsSpoon$Sitting" (TX6 12).2.1 (TX6 12).2.2.1 ∈ lwg := lwg_at 223 (by decide +kernel) rfl
theorem xg_X10_174 (C : CallFix p m c cc nL s args lwg RX10) (hW : WI g.1 (xw g) (xty g) A s σ H locs) (hd : decode cc pc = .ok (.getfield 174, 3)) (kk : W p l e R s m args below meth c H locs cells slots Q (F0 m (pc + 3) ls (.int (xSI σ 12) :: rest))) : W p l e R s m args below meth c H locs cells slots Q (F0 m pc ls (.ref (g.2.1 17) :: rest)) := w_get C hW inSg (q0 := 17) (ci := 7) (k := 12) rfl rfl (by decide) xl_X10_174 rfl rfl hd kk
theorem xp_X10_174 (C : CallFix p m c cc nL s args lwg RX10) (hW : WI g.1 (xw g) (xty g) A s σ H locs) {v : Int32} (hd : decode cc pc = .ok (.putfield 174, 3)) (kk : ∀ (σ1 : XS) (H : Heap) (locs : List Loc), σ1 = xsSI σ 12 v → WI g.1 (xw g) (xty g) A s σ1 H locs → W p l e R s m args below meth c H locs cells slots Q (F0 m (pc + 3) ls rest)) : W p l e R s m args below meth c H locs cells slots Q (F0 m pc ls (.int v :: .ref (g.2.1 17) :: rest)) := w_put C hW inSg tyX6 tyX6_ok nmX6 (q0 := 17) (ci := 7) (k := 12) rfl rfl (by decide) xl_X10_174 rfl rfl rfl rfl (Nat.le_of_ble_eq_true rfl) rfl hd kk
theorem xl_X10_177 : Cond.fieldLink RX10 177 "HermitsSpoon$Vow" (TX9 1).2.1 (TX9 1).2.2.1 ∈ lwg := lwg_at 351 (by decide +kernel) rfl
theorem xg_X10_177 (C : CallFix p m c cc nL s args lwg RX10) (hW : WI g.1 (xw g) (xty g) A s σ H locs) {v : Fin (nV g)} (hd : decode cc pc = .ok (.getfield 177, 3)) (kk : W p l e R s m args below meth c H locs cells slots Q (F0 m (pc + 3) ls (.int (vF1 g v) :: rest))) : W p l e R s m args below meth c H locs cells slots Q (F0 m pc ls (.ref (vA g v) :: rest)) := by
  obtain ⟨q, he⟩ := xw_V g σ v
  exact w_get C hW inVg he rfl (k := 1) (by decide) xl_X10_177 rfl rfl hd kk
theorem xl_X10_184 : Cond.fieldLink RX10 184 "HermitsSpoon$Sitting" (TX6 6).2.1 (TX6 6).2.2.1 ∈ lwg := lwg_at 213 (by decide +kernel) rfl
theorem xg_X10_184 (C : CallFix p m c cc nL s args lwg RX10) (hW : WI g.1 (xw g) (xty g) A s σ H locs) (hd : decode cc pc = .ok (.getfield 184, 3)) (kk : W p l e R s m args below meth c H locs cells slots Q (F0 m (pc + 3) ls (.int (xSI σ 6) :: rest))) : W p l e R s m args below meth c H locs cells slots Q (F0 m pc ls (.ref (g.2.1 17) :: rest)) := w_get C hW inSg (q0 := 17) (ci := 7) (k := 6) rfl rfl (by decide) xl_X10_184 rfl rfl hd kk
theorem xl_X10_187 : Cond.fieldLink RX10 187 "HermitsSpoon$Sitting" (TX6 13).2.1 (TX6 13).2.2.1 ∈ lwg := lwg_at 225 (by decide +kernel) rfl
theorem xg_X10_187 (C : CallFix p m c cc nL s args lwg RX10) (hW : WI g.1 (xw g) (xty g) A s σ H locs) (hd : decode cc pc = .ok (.getfield 187, 3)) (kk : W p l e R s m args below meth c H locs cells slots Q (F0 m (pc + 3) ls (.ref (g.2.1 22) :: rest))) : W p l e R s m args below meth c H locs cells slots Q (F0 m pc ls (.ref (g.2.1 17) :: rest)) := w_get C hW inSg (q0 := 17) (ci := 7) (k := 13) rfl rfl (by decide) xl_X10_187 rfl rfl hd kk
theorem xl_X10_224 : Cond.fieldLink RX10 224 "HermitsSpoon$Sitting" (TX6 4).2.1 (TX6 4).2.2.1 ∈ lwg := lwg_at 210 (by decide +kernel) rfl
theorem xg_X10_224 (C : CallFix p m c cc nL s args lwg RX10) (hW : WI g.1 (xw g) (xty g) A s σ H locs) (hd : decode cc pc = .ok (.getfield 224, 3)) (kk : W p l e R s m args below meth c H locs cells slots Q (F0 m (pc + 3) ls (.int (xSI σ 4) :: rest))) : W p l e R s m args below meth c H locs cells slots Q (F0 m pc ls (.ref (g.2.1 17) :: rest)) := w_get C hW inSg (q0 := 17) (ci := 7) (k := 4) rfl rfl (by decide) xl_X10_224 rfl rfl hd kk
theorem xl_X10_225 : Cond.fieldLink RX10 225 "HermitsSpoon$Sitting" (TX6 3).2.1 (TX6 3).2.2.1 ∈ lwg := lwg_at 208 (by decide +kernel) rfl
theorem xg_X10_225 (C : CallFix p m c cc nL s args lwg RX10) (hW : WI g.1 (xw g) (xty g) A s σ H locs) (hd : decode cc pc = .ok (.getfield 225, 3)) (kk : W p l e R s m args below meth c H locs cells slots Q (F0 m (pc + 3) ls (.int (xSI σ 3) :: rest))) : W p l e R s m args below meth c H locs cells slots Q (F0 m pc ls (.ref (g.2.1 17) :: rest)) := w_get C hW inSg (q0 := 17) (ci := 7) (k := 3) rfl rfl (by decide) xl_X10_225 rfl rfl hd kk
theorem xl_X10_247 : Cond.fieldLink RX10 247 "HermitsSpoon$Page" (TX5 0).2.1 (TX5 0).2.2.1 ∈ lwg := lwg_at 128 (by decide +kernel) rfl
theorem xg_X10_247 (C : CallFix p m c cc nL s args lwg RX10) (hW : WI g.1 (xw g) (xty g) A s σ H locs) (hd : decode cc pc = .ok (.getfield 247, 3)) (kk : W p l e R s m args below meth c H locs cells slots Q (F0 m (pc + 3) ls (.ref (g.2.1 4) :: rest))) : W p l e R s m args below meth c H locs cells slots Q (F0 m pc ls (.ref (g.2.1 3) :: rest)) := w_get C hW inPg (q0 := 3) (ci := 6) (k := 0) rfl rfl (by decide) xl_X10_247 rfl rfl hd kk
theorem xl_X10_270 : Cond.fieldLink RX10 270 "HermitsSpoon$Hermit" (TX4 0).2.1 (TX4 0).2.2.1 ∈ lwg := lwg_at 482 (by decide +kernel) rfl
theorem xg_X10_270 (C : CallFix p m c cc nL s args lwg RX10) (hW : WI g.1 (xw g) (xty g) A s σ H locs) {j : Fin (nH g)} (hd : decode cc pc = .ok (.getfield 270, 3)) (kk : W p l e R s m args below meth c H locs cells slots Q (F0 m (pc + 3) ls (.int (hF0 g j) :: rest))) : W p l e R s m args below meth c H locs cells slots Q (F0 m pc ls (.ref (hA g j) :: rest)) :=
  fin5 (P := fun kd => (xw g σ)[36 + j.val]? = some (hA g j, .inr (kc kd, [.int (hF0 g j), .int (hF1 g j), .int (hF2 g j), .int (hF3 g j)])) → W p l e R s m args below meth c H locs cells slots Q (F0 m pc ls (.ref (hA g j) :: rest))) (hK g j)
    (fun he => w_get C hW inK0g he rfl (k := 0) (by decide) xl_X10_270 rfl rfl hd kk)
    (fun he => w_get C hW inK1g he rfl (k := 0) (by decide) xl_X10_270 rfl rfl hd kk)
    (fun he => w_get C hW inK2g he rfl (k := 0) (by decide) xl_X10_270 rfl rfl hd kk)
    (fun he => w_get C hW inK3g he rfl (k := 0) (by decide) xl_X10_270 rfl rfl hd kk)
    (fun he => w_get C hW inK4g he rfl (k := 0) (by decide) xl_X10_270 rfl rfl hd kk)
    (xw_H g σ j)
theorem xl_X10_273 : Cond.fieldLink RX10 273 "HermitsSpoon$Hermit" (TX4 1).2.1 (TX4 1).2.2.1 ∈ lwg := lwg_at 486 (by decide +kernel) rfl
theorem xg_X10_273 (C : CallFix p m c cc nL s args lwg RX10) (hW : WI g.1 (xw g) (xty g) A s σ H locs) {j : Fin (nH g)} (hd : decode cc pc = .ok (.getfield 273, 3)) (kk : W p l e R s m args below meth c H locs cells slots Q (F0 m (pc + 3) ls (.int (hF1 g j) :: rest))) : W p l e R s m args below meth c H locs cells slots Q (F0 m pc ls (.ref (hA g j) :: rest)) :=
  fin5 (P := fun kd => (xw g σ)[36 + j.val]? = some (hA g j, .inr (kc kd, [.int (hF0 g j), .int (hF1 g j), .int (hF2 g j), .int (hF3 g j)])) → W p l e R s m args below meth c H locs cells slots Q (F0 m pc ls (.ref (hA g j) :: rest))) (hK g j)
    (fun he => w_get C hW inK0g he rfl (k := 1) (by decide) xl_X10_273 rfl rfl hd kk)
    (fun he => w_get C hW inK1g he rfl (k := 1) (by decide) xl_X10_273 rfl rfl hd kk)
    (fun he => w_get C hW inK2g he rfl (k := 1) (by decide) xl_X10_273 rfl rfl hd kk)
    (fun he => w_get C hW inK3g he rfl (k := 1) (by decide) xl_X10_273 rfl rfl hd kk)
    (fun he => w_get C hW inK4g he rfl (k := 1) (by decide) xl_X10_273 rfl rfl hd kk)
    (xw_H g σ j)
theorem xl_X10_276 : Cond.fieldLink RX10 276 "HermitsSpoon$Hermit" (TX4 2).2.1 (TX4 2).2.2.1 ∈ lwg := lwg_at 489 (by decide +kernel) rfl
theorem xg_X10_276 (C : CallFix p m c cc nL s args lwg RX10) (hW : WI g.1 (xw g) (xty g) A s σ H locs) {j : Fin (nH g)} (hd : decode cc pc = .ok (.getfield 276, 3)) (kk : W p l e R s m args below meth c H locs cells slots Q (F0 m (pc + 3) ls (.int (hF2 g j) :: rest))) : W p l e R s m args below meth c H locs cells slots Q (F0 m pc ls (.ref (hA g j) :: rest)) :=
  fin5 (P := fun kd => (xw g σ)[36 + j.val]? = some (hA g j, .inr (kc kd, [.int (hF0 g j), .int (hF1 g j), .int (hF2 g j), .int (hF3 g j)])) → W p l e R s m args below meth c H locs cells slots Q (F0 m pc ls (.ref (hA g j) :: rest))) (hK g j)
    (fun he => w_get C hW inK0g he rfl (k := 2) (by decide) xl_X10_276 rfl rfl hd kk)
    (fun he => w_get C hW inK1g he rfl (k := 2) (by decide) xl_X10_276 rfl rfl hd kk)
    (fun he => w_get C hW inK2g he rfl (k := 2) (by decide) xl_X10_276 rfl rfl hd kk)
    (fun he => w_get C hW inK3g he rfl (k := 2) (by decide) xl_X10_276 rfl rfl hd kk)
    (fun he => w_get C hW inK4g he rfl (k := 2) (by decide) xl_X10_276 rfl rfl hd kk)
    (xw_H g σ j)
theorem xl_X10_279 : Cond.fieldLink RX10 279 "HermitsSpoon$Hermit" (TX4 3).2.1 (TX4 3).2.2.1 ∈ lwg := lwg_at 492 (by decide +kernel) rfl
theorem xg_X10_279 (C : CallFix p m c cc nL s args lwg RX10) (hW : WI g.1 (xw g) (xty g) A s σ H locs) {j : Fin (nH g)} (hd : decode cc pc = .ok (.getfield 279, 3)) (kk : W p l e R s m args below meth c H locs cells slots Q (F0 m (pc + 3) ls (.int (hF3 g j) :: rest))) : W p l e R s m args below meth c H locs cells slots Q (F0 m pc ls (.ref (hA g j) :: rest)) :=
  fin5 (P := fun kd => (xw g σ)[36 + j.val]? = some (hA g j, .inr (kc kd, [.int (hF0 g j), .int (hF1 g j), .int (hF2 g j), .int (hF3 g j)])) → W p l e R s m args below meth c H locs cells slots Q (F0 m pc ls (.ref (hA g j) :: rest))) (hK g j)
    (fun he => w_get C hW inK0g he rfl (k := 3) (by decide) xl_X10_279 rfl rfl hd kk)
    (fun he => w_get C hW inK1g he rfl (k := 3) (by decide) xl_X10_279 rfl rfl hd kk)
    (fun he => w_get C hW inK2g he rfl (k := 3) (by decide) xl_X10_279 rfl rfl hd kk)
    (fun he => w_get C hW inK3g he rfl (k := 3) (by decide) xl_X10_279 rfl rfl hd kk)
    (fun he => w_get C hW inK4g he rfl (k := 3) (by decide) xl_X10_279 rfl rfl hd kk)
    (xw_H g σ j)
theorem xl_X10_291 : Cond.fieldLink RX10 291 "HermitsSpoon$Sitting" (TX6 11).2.1 (TX6 11).2.2.1 ∈ lwg := lwg_at 221 (by decide +kernel) rfl
theorem xg_X10_291 (C : CallFix p m c cc nL s args lwg RX10) (hW : WI g.1 (xw g) (xty g) A s σ H locs) (hd : decode cc pc = .ok (.getfield 291, 3)) (kk : W p l e R s m args below meth c H locs cells slots Q (F0 m (pc + 3) ls (.int (xSI σ 11) :: rest))) : W p l e R s m args below meth c H locs cells slots Q (F0 m pc ls (.ref (g.2.1 17) :: rest)) := w_get C hW inSg (q0 := 17) (ci := 7) (k := 11) rfl rfl (by decide) xl_X10_291 rfl rfl hd kk
theorem xp_X10_291 (C : CallFix p m c cc nL s args lwg RX10) (hW : WI g.1 (xw g) (xty g) A s σ H locs) {v : Int32} (hd : decode cc pc = .ok (.putfield 291, 3)) (kk : ∀ (σ1 : XS) (H : Heap) (locs : List Loc), σ1 = xsSI σ 11 v → WI g.1 (xw g) (xty g) A s σ1 H locs → W p l e R s m args below meth c H locs cells slots Q (F0 m (pc + 3) ls rest)) : W p l e R s m args below meth c H locs cells slots Q (F0 m pc ls (.int v :: .ref (g.2.1 17) :: rest)) := w_put C hW inSg tyX6 tyX6_ok nmX6 (q0 := 17) (ci := 7) (k := 11) rfl rfl (by decide) xl_X10_291 rfl rfl rfl rfl (Nat.le_of_ble_eq_true rfl) rfl hd kk
theorem xl_X0_11 : Cond.fieldLink RX0 11 "HermitsSpoon$Council" (TX0 2).2.1 (TX0 2).2.2.1 ∈ lwg := lwg_at 265 (by decide +kernel) rfl
theorem xg_X0_11 (C : CallFix p m c cc nL s args lwg RX0) (hW : WI g.1 (xw g) (xty g) A s σ H locs) (hd : decode cc pc = .ok (.getfield 11, 3)) (kk : W p l e R s m args below meth c H locs cells slots Q (F0 m (pc + 3) ls (.ref (g.2.1 24) :: rest))) : W p l e R s m args below meth c H locs cells slots Q (F0 m pc ls (.ref (g.2.1 23) :: rest)) := w_get C hW inCg (q0 := 23) (ci := 1) (k := 2) rfl rfl (by decide) xl_X0_11 rfl rfl hd kk
theorem xl_X0_16 : Cond.fieldLink RX0 16 "HermitsSpoon$Council" (TX0 0).2.1 (TX0 0).2.2.1 ∈ lwg := lwg_at 263 (by decide +kernel) rfl
theorem xg_X0_16 (C : CallFix p m c cc nL s args lwg RX0) (hW : WI g.1 (xw g) (xty g) A s σ H locs) (hd : decode cc pc = .ok (.getfield 16, 3)) (kk : W p l e R s m args below meth c H locs cells slots Q (F0 m (pc + 3) ls (.ref (g.2.1 17) :: rest))) : W p l e R s m args below meth c H locs cells slots Q (F0 m pc ls (.ref (g.2.1 23) :: rest)) := w_get C hW inCg (q0 := 23) (ci := 1) (k := 0) rfl rfl (by decide) xl_X0_16 rfl rfl hd kk
theorem xl_X0_20 : Cond.fieldLink RX0 20 "HermitsSpoon$Council" (TX0 1).2.1 (TX0 1).2.2.1 ∈ lwg := lwg_at 264 (by decide +kernel) rfl
theorem xg_X0_20 (C : CallFix p m c cc nL s args lwg RX0) (hW : WI g.1 (xw g) (xty g) A s σ H locs) (hd : decode cc pc = .ok (.getfield 20, 3)) (kk : W p l e R s m args below meth c H locs cells slots Q (F0 m (pc + 3) ls (.ref (tA g 2) :: rest))) : W p l e R s m args below meth c H locs cells slots Q (F0 m pc ls (.ref (g.2.1 23) :: rest)) := w_get C hW inCg (q0 := 23) (ci := 1) (k := 1) rfl rfl (by decide) xl_X0_20 rfl rfl hd kk
theorem xl_X0_24 : Cond.fieldLink RX0 24 "HermitsSpoon$Vow" (TX9 1).2.1 (TX9 1).2.2.1 ∈ lwg := lwg_at 349 (by decide +kernel) rfl
theorem xg_X0_24 (C : CallFix p m c cc nL s args lwg RX0) (hW : WI g.1 (xw g) (xty g) A s σ H locs) {v : Fin (nV g)} (hd : decode cc pc = .ok (.getfield 24, 3)) (kk : W p l e R s m args below meth c H locs cells slots Q (F0 m (pc + 3) ls (.int (vF1 g v) :: rest))) : W p l e R s m args below meth c H locs cells slots Q (F0 m pc ls (.ref (vA g v) :: rest)) := by
  obtain ⟨q, he⟩ := xw_V g σ v
  exact w_get C hW inVg he rfl (k := 1) (by decide) xl_X0_24 rfl rfl hd kk
theorem xl_X0_36 : Cond.fieldLink RX0 36 "HermitsSpoon$Table" (TX8 0).2.1 (TX8 0).2.2.1 ∈ lwg := lwg_at 168 (by decide +kernel) rfl
theorem xg_X0_36 (C : CallFix p m c cc nL s args lwg RX0) (hW : WI g.1 (xw g) (xty g) A s σ H locs) {t : Fin 3} (hd : decode cc pc = .ok (.getfield 36, 3)) (kk : W p l e R s m args below meth c H locs cells slots Q (F0 m (pc + 3) ls (.ref (g.2.1 1) :: rest))) : W p l e R s m args below meth c H locs cells slots Q (F0 m pc ls (.ref (tA g t) :: rest)) := w_get C hW inTg (q0 := 5 + 4 * t.val) (ci := 9) (k := 0) (xw_T g σ t) rfl (by decide) xl_X0_36 rfl rfl hd kk
theorem xl_X0_64 : Cond.fieldLink RX0 64 "HermitsSpoon$Sitting" (TX6 8).2.1 (TX6 8).2.2.1 ∈ lwg := lwg_at 216 (by decide +kernel) rfl
theorem xg_X0_64 (C : CallFix p m c cc nL s args lwg RX0) (hW : WI g.1 (xw g) (xty g) A s σ H locs) (hd : decode cc pc = .ok (.getfield 64, 3)) (kk : W p l e R s m args below meth c H locs cells slots Q (F0 m (pc + 3) ls (.ref (rA g 0) :: rest))) : W p l e R s m args below meth c H locs cells slots Q (F0 m pc ls (.ref (g.2.1 17) :: rest)) := w_get C hW inSg (q0 := 17) (ci := 7) (k := 8) rfl rfl (by decide) xl_X0_64 rfl rfl hd kk
theorem xl_X0_78 : Cond.fieldLink RX0 78 "HermitsSpoon$Vow" (TX9 0).2.1 (TX9 0).2.2.1 ∈ lwg := lwg_at 347 (by decide +kernel) rfl
theorem xg_X0_78 (C : CallFix p m c cc nL s args lwg RX0) (hW : WI g.1 (xw g) (xty g) A s σ H locs) {v : Fin (nV g)} (hd : decode cc pc = .ok (.getfield 78, 3)) (kk : W p l e R s m args below meth c H locs cells slots Q (F0 m (pc + 3) ls (.int (vF0 g v) :: rest))) : W p l e R s m args below meth c H locs cells slots Q (F0 m pc ls (.ref (vA g v) :: rest)) := by
  obtain ⟨q, he⟩ := xw_V g σ v
  exact w_get C hW inVg he rfl (k := 0) (by decide) xl_X0_78 rfl rfl hd kk
theorem xl_X0_86 : Cond.fieldLink RX0 86 "HermitsSpoon$Table" (TX8 2).2.1 (TX8 2).2.2.1 ∈ lwg := lwg_at 173 (by decide +kernel) rfl
theorem xg_X0_86 (C : CallFix p m c cc nL s args lwg RX0) (hW : WI g.1 (xw g) (xty g) A s σ H locs) {t : Fin 3} (hd : decode cc pc = .ok (.getfield 86, 3)) (kk : W p l e R s m args below meth c H locs cells slots Q (F0 m (pc + 3) ls (.ref (tB g t 1) :: rest))) : W p l e R s m args below meth c H locs cells slots Q (F0 m pc ls (.ref (tA g t) :: rest)) := w_get C hW inTg (q0 := 5 + 4 * t.val) (ci := 9) (k := 2) (xw_T g σ t) rfl (by decide) xl_X0_86 rfl rfl hd kk
theorem xl_X4_9 : Cond.fieldLink RX4 9 "HermitsSpoon$Hermit" (TX4 0).2.1 (TX4 0).2.2.1 ∈ lwg := lwg_at 479 (by decide +kernel) rfl
theorem xg_X4_9 (C : CallFix p m c cc nL s args lwg RX4) (hW : WI g.1 (xw g) (xty g) A s σ H locs) {j : Fin (nH g)} (hd : decode cc pc = .ok (.getfield 9, 3)) (kk : W p l e R s m args below meth c H locs cells slots Q (F0 m (pc + 3) ls (.int (hF0 g j) :: rest))) : W p l e R s m args below meth c H locs cells slots Q (F0 m pc ls (.ref (hA g j) :: rest)) :=
  fin5 (P := fun kd => (xw g σ)[36 + j.val]? = some (hA g j, .inr (kc kd, [.int (hF0 g j), .int (hF1 g j), .int (hF2 g j), .int (hF3 g j)])) → W p l e R s m args below meth c H locs cells slots Q (F0 m pc ls (.ref (hA g j) :: rest))) (hK g j)
    (fun he => w_get C hW inK0g he rfl (k := 0) (by decide) xl_X4_9 rfl rfl hd kk)
    (fun he => w_get C hW inK1g he rfl (k := 0) (by decide) xl_X4_9 rfl rfl hd kk)
    (fun he => w_get C hW inK2g he rfl (k := 0) (by decide) xl_X4_9 rfl rfl hd kk)
    (fun he => w_get C hW inK3g he rfl (k := 0) (by decide) xl_X4_9 rfl rfl hd kk)
    (fun he => w_get C hW inK4g he rfl (k := 0) (by decide) xl_X4_9 rfl rfl hd kk)
    (xw_H g σ j)
theorem xl_X4_15 : Cond.fieldLink RX4 15 "HermitsSpoon$Hermit" (TX4 1).2.1 (TX4 1).2.2.1 ∈ lwg := lwg_at 483 (by decide +kernel) rfl
theorem xg_X4_15 (C : CallFix p m c cc nL s args lwg RX4) (hW : WI g.1 (xw g) (xty g) A s σ H locs) {j : Fin (nH g)} (hd : decode cc pc = .ok (.getfield 15, 3)) (kk : W p l e R s m args below meth c H locs cells slots Q (F0 m (pc + 3) ls (.int (hF1 g j) :: rest))) : W p l e R s m args below meth c H locs cells slots Q (F0 m pc ls (.ref (hA g j) :: rest)) :=
  fin5 (P := fun kd => (xw g σ)[36 + j.val]? = some (hA g j, .inr (kc kd, [.int (hF0 g j), .int (hF1 g j), .int (hF2 g j), .int (hF3 g j)])) → W p l e R s m args below meth c H locs cells slots Q (F0 m pc ls (.ref (hA g j) :: rest))) (hK g j)
    (fun he => w_get C hW inK0g he rfl (k := 1) (by decide) xl_X4_15 rfl rfl hd kk)
    (fun he => w_get C hW inK1g he rfl (k := 1) (by decide) xl_X4_15 rfl rfl hd kk)
    (fun he => w_get C hW inK2g he rfl (k := 1) (by decide) xl_X4_15 rfl rfl hd kk)
    (fun he => w_get C hW inK3g he rfl (k := 1) (by decide) xl_X4_15 rfl rfl hd kk)
    (fun he => w_get C hW inK4g he rfl (k := 1) (by decide) xl_X4_15 rfl rfl hd kk)
    (xw_H g σ j)
theorem xl_X4_18 : Cond.fieldLink RX4 18 "HermitsSpoon$Hermit" (TX4 2).2.1 (TX4 2).2.2.1 ∈ lwg := lwg_at 487 (by decide +kernel) rfl
theorem xg_X4_18 (C : CallFix p m c cc nL s args lwg RX4) (hW : WI g.1 (xw g) (xty g) A s σ H locs) {j : Fin (nH g)} (hd : decode cc pc = .ok (.getfield 18, 3)) (kk : W p l e R s m args below meth c H locs cells slots Q (F0 m (pc + 3) ls (.int (hF2 g j) :: rest))) : W p l e R s m args below meth c H locs cells slots Q (F0 m pc ls (.ref (hA g j) :: rest)) :=
  fin5 (P := fun kd => (xw g σ)[36 + j.val]? = some (hA g j, .inr (kc kd, [.int (hF0 g j), .int (hF1 g j), .int (hF2 g j), .int (hF3 g j)])) → W p l e R s m args below meth c H locs cells slots Q (F0 m pc ls (.ref (hA g j) :: rest))) (hK g j)
    (fun he => w_get C hW inK0g he rfl (k := 2) (by decide) xl_X4_18 rfl rfl hd kk)
    (fun he => w_get C hW inK1g he rfl (k := 2) (by decide) xl_X4_18 rfl rfl hd kk)
    (fun he => w_get C hW inK2g he rfl (k := 2) (by decide) xl_X4_18 rfl rfl hd kk)
    (fun he => w_get C hW inK3g he rfl (k := 2) (by decide) xl_X4_18 rfl rfl hd kk)
    (fun he => w_get C hW inK4g he rfl (k := 2) (by decide) xl_X4_18 rfl rfl hd kk)
    (xw_H g σ j)
theorem xl_X4_21 : Cond.fieldLink RX4 21 "HermitsSpoon$Hermit" (TX4 3).2.1 (TX4 3).2.2.1 ∈ lwg := lwg_at 490 (by decide +kernel) rfl
theorem xg_X4_21 (C : CallFix p m c cc nL s args lwg RX4) (hW : WI g.1 (xw g) (xty g) A s σ H locs) {j : Fin (nH g)} (hd : decode cc pc = .ok (.getfield 21, 3)) (kk : W p l e R s m args below meth c H locs cells slots Q (F0 m (pc + 3) ls (.int (hF3 g j) :: rest))) : W p l e R s m args below meth c H locs cells slots Q (F0 m pc ls (.ref (hA g j) :: rest)) :=
  fin5 (P := fun kd => (xw g σ)[36 + j.val]? = some (hA g j, .inr (kc kd, [.int (hF0 g j), .int (hF1 g j), .int (hF2 g j), .int (hF3 g j)])) → W p l e R s m args below meth c H locs cells slots Q (F0 m pc ls (.ref (hA g j) :: rest))) (hK g j)
    (fun he => w_get C hW inK0g he rfl (k := 3) (by decide) xl_X4_21 rfl rfl hd kk)
    (fun he => w_get C hW inK1g he rfl (k := 3) (by decide) xl_X4_21 rfl rfl hd kk)
    (fun he => w_get C hW inK2g he rfl (k := 3) (by decide) xl_X4_21 rfl rfl hd kk)
    (fun he => w_get C hW inK3g he rfl (k := 3) (by decide) xl_X4_21 rfl rfl hd kk)
    (fun he => w_get C hW inK4g he rfl (k := 3) (by decide) xl_X4_21 rfl rfl hd kk)
    (xw_H g σ j)
theorem xl_X5_9 : Cond.fieldLink RX5 9 "HermitsSpoon$Page" (TX5 0).2.1 (TX5 0).2.2.1 ∈ lwg := lwg_at 127 (by decide +kernel) rfl
theorem xg_X5_9 (C : CallFix p m c cc nL s args lwg RX5) (hW : WI g.1 (xw g) (xty g) A s σ H locs) (hd : decode cc pc = .ok (.getfield 9, 3)) (kk : W p l e R s m args below meth c H locs cells slots Q (F0 m (pc + 3) ls (.ref (g.2.1 4) :: rest))) : W p l e R s m args below meth c H locs cells slots Q (F0 m pc ls (.ref (g.2.1 3) :: rest)) := w_get C hW inPg (q0 := 3) (ci := 6) (k := 0) rfl rfl (by decide) xl_X5_9 rfl rfl hd kk
theorem xl_X5_19 : Cond.fieldLink RX5 19 "HermitsSpoon$Page" (TX5 1).2.1 (TX5 1).2.2.1 ∈ lwg := lwg_at 130 (by decide +kernel) rfl
theorem xg_X5_19 (C : CallFix p m c cc nL s args lwg RX5) (hW : WI g.1 (xw g) (xty g) A s σ H locs) (hd : decode cc pc = .ok (.getfield 19, 3)) (kk : W p l e R s m args below meth c H locs cells slots Q (F0 m (pc + 3) ls (.int (xP σ 1) :: rest))) : W p l e R s m args below meth c H locs cells slots Q (F0 m pc ls (.ref (g.2.1 3) :: rest)) := w_get C hW inPg (q0 := 3) (ci := 6) (k := 1) rfl rfl (by decide) xl_X5_19 rfl rfl hd kk
theorem xp_X5_19 (C : CallFix p m c cc nL s args lwg RX5) (hW : WI g.1 (xw g) (xty g) A s σ H locs) {v : Int32} (hd : decode cc pc = .ok (.putfield 19, 3)) (kk : ∀ (σ1 : XS) (H : Heap) (locs : List Loc), σ1 = xsP σ 1 v → WI g.1 (xw g) (xty g) A s σ1 H locs → W p l e R s m args below meth c H locs cells slots Q (F0 m (pc + 3) ls rest)) : W p l e R s m args below meth c H locs cells slots Q (F0 m pc ls (.int v :: .ref (g.2.1 3) :: rest)) := w_put C hW inPg tyX5 tyX5_ok nmX5 (q0 := 3) (ci := 6) (k := 1) rfl rfl (by decide) xl_X5_19 rfl rfl rfl rfl (Nat.le_of_ble_eq_true rfl) rfl hd kk
theorem xl_X5_23 : Cond.fieldLink RX5 23 "HermitsSpoon$Page" (TX5 2).2.1 (TX5 2).2.2.1 ∈ lwg := lwg_at 131 (by decide +kernel) rfl
theorem xg_X5_23 (C : CallFix p m c cc nL s args lwg RX5) (hW : WI g.1 (xw g) (xty g) A s σ H locs) (hd : decode cc pc = .ok (.getfield 23, 3)) (kk : W p l e R s m args below meth c H locs cells slots Q (F0 m (pc + 3) ls (.int (xP σ 2) :: rest))) : W p l e R s m args below meth c H locs cells slots Q (F0 m pc ls (.ref (g.2.1 3) :: rest)) := w_get C hW inPg (q0 := 3) (ci := 6) (k := 2) rfl rfl (by decide) xl_X5_23 rfl rfl hd kk
theorem xp_X5_23 (C : CallFix p m c cc nL s args lwg RX5) (hW : WI g.1 (xw g) (xty g) A s σ H locs) {v : Int32} (hd : decode cc pc = .ok (.putfield 23, 3)) (kk : ∀ (σ1 : XS) (H : Heap) (locs : List Loc), σ1 = xsP σ 2 v → WI g.1 (xw g) (xty g) A s σ1 H locs → W p l e R s m args below meth c H locs cells slots Q (F0 m (pc + 3) ls rest)) : W p l e R s m args below meth c H locs cells slots Q (F0 m pc ls (.int v :: .ref (g.2.1 3) :: rest)) := w_put C hW inPg tyX5 tyX5_ok nmX5 (q0 := 3) (ci := 6) (k := 2) rfl rfl (by decide) xl_X5_23 rfl rfl rfl rfl (Nat.le_of_ble_eq_true rfl) rfl hd kk
theorem xl_X5_26 : Cond.fieldLink RX5 26 "HermitsSpoon$Page" (TX5 3).2.1 (TX5 3).2.2.1 ∈ lwg := lwg_at 133 (by decide +kernel) rfl
theorem xg_X5_26 (C : CallFix p m c cc nL s args lwg RX5) (hW : WI g.1 (xw g) (xty g) A s σ H locs) (hd : decode cc pc = .ok (.getfield 26, 3)) (kk : W p l e R s m args below meth c H locs cells slots Q (F0 m (pc + 3) ls (.int (xP σ 3) :: rest))) : W p l e R s m args below meth c H locs cells slots Q (F0 m pc ls (.ref (g.2.1 3) :: rest)) := w_get C hW inPg (q0 := 3) (ci := 6) (k := 3) rfl rfl (by decide) xl_X5_26 rfl rfl hd kk
theorem xp_X5_26 (C : CallFix p m c cc nL s args lwg RX5) (hW : WI g.1 (xw g) (xty g) A s σ H locs) {v : Int32} (hv : isB v) (hd : decode cc pc = .ok (.putfield 26, 3)) (kk : ∀ (σ1 : XS) (H : Heap) (locs : List Loc), σ1 = xsP σ 3 v → WI g.1 (xw g) (xty g) A s σ1 H locs → W p l e R s m args below meth c H locs cells slots Q (F0 m (pc + 3) ls rest)) : W p l e R s m args below meth c H locs cells slots Q (F0 m pc ls (.int v :: .ref (g.2.1 3) :: rest)) := w_put C hW inPg tyX5 tyX5_ok nmX5 (q0 := 3) (ci := 6) (k := 3) rfl rfl (by decide) xl_X5_26 rfl rfl (isB_nar hv) (isB_fit hv) (Nat.le_of_ble_eq_true rfl) rfl hd kk
theorem xl_X5_34 : Cond.fieldLink RX5 34 "HermitsSpoon$Page" (TX5 4).2.1 (TX5 4).2.2.1 ∈ lwg := lwg_at 136 (by decide +kernel) rfl
theorem xg_X5_34 (C : CallFix p m c cc nL s args lwg RX5) (hW : WI g.1 (xw g) (xty g) A s σ H locs) (hd : decode cc pc = .ok (.getfield 34, 3)) (kk : W p l e R s m args below meth c H locs cells slots Q (F0 m (pc + 3) ls (.int (xP σ 4) :: rest))) : W p l e R s m args below meth c H locs cells slots Q (F0 m pc ls (.ref (g.2.1 3) :: rest)) := w_get C hW inPg (q0 := 3) (ci := 6) (k := 4) rfl rfl (by decide) xl_X5_34 rfl rfl hd kk
theorem xp_X5_34 (C : CallFix p m c cc nL s args lwg RX5) (hW : WI g.1 (xw g) (xty g) A s σ H locs) {v : Int32} (hv : isB v) (hd : decode cc pc = .ok (.putfield 34, 3)) (kk : ∀ (σ1 : XS) (H : Heap) (locs : List Loc), σ1 = xsP σ 4 v → WI g.1 (xw g) (xty g) A s σ1 H locs → W p l e R s m args below meth c H locs cells slots Q (F0 m (pc + 3) ls rest)) : W p l e R s m args below meth c H locs cells slots Q (F0 m pc ls (.int v :: .ref (g.2.1 3) :: rest)) := w_put C hW inPg tyX5 tyX5_ok nmX5 (q0 := 3) (ci := 6) (k := 4) rfl rfl (by decide) xl_X5_34 rfl rfl (isB_nar hv) (isB_fit hv) (Nat.le_of_ble_eq_true rfl) rfl hd kk
theorem xl_X5_41 : Cond.fieldLink RX5 41 "HermitsSpoon$Page" (TX5 5).2.1 (TX5 5).2.2.1 ∈ lwg := lwg_at 138 (by decide +kernel) rfl
theorem xg_X5_41 (C : CallFix p m c cc nL s args lwg RX5) (hW : WI g.1 (xw g) (xty g) A s σ H locs) (hd : decode cc pc = .ok (.getfield 41, 3)) (kk : W p l e R s m args below meth c H locs cells slots Q (F0 m (pc + 3) ls (.int (xP σ 5) :: rest))) : W p l e R s m args below meth c H locs cells slots Q (F0 m pc ls (.ref (g.2.1 3) :: rest)) := w_get C hW inPg (q0 := 3) (ci := 6) (k := 5) rfl rfl (by decide) xl_X5_41 rfl rfl hd kk
theorem xp_X5_41 (C : CallFix p m c cc nL s args lwg RX5) (hW : WI g.1 (xw g) (xty g) A s σ H locs) {v : Int32} (hd : decode cc pc = .ok (.putfield 41, 3)) (kk : ∀ (σ1 : XS) (H : Heap) (locs : List Loc), σ1 = xsP σ 5 v → WI g.1 (xw g) (xty g) A s σ1 H locs → W p l e R s m args below meth c H locs cells slots Q (F0 m (pc + 3) ls rest)) : W p l e R s m args below meth c H locs cells slots Q (F0 m pc ls (.int v :: .ref (g.2.1 3) :: rest)) := w_put C hW inPg tyX5 tyX5_ok nmX5 (q0 := 3) (ci := 6) (k := 5) rfl rfl (by decide) xl_X5_41 rfl rfl rfl rfl (Nat.le_of_ble_eq_true rfl) rfl hd kk
theorem xl_X5_44 : Cond.fieldLink RX5 44 "HermitsSpoon$Page" (TX5 6).2.1 (TX5 6).2.2.1 ∈ lwg := lwg_at 140 (by decide +kernel) rfl
theorem xg_X5_44 (C : CallFix p m c cc nL s args lwg RX5) (hW : WI g.1 (xw g) (xty g) A s σ H locs) (hd : decode cc pc = .ok (.getfield 44, 3)) (kk : W p l e R s m args below meth c H locs cells slots Q (F0 m (pc + 3) ls (.int (xP σ 6) :: rest))) : W p l e R s m args below meth c H locs cells slots Q (F0 m pc ls (.ref (g.2.1 3) :: rest)) := w_get C hW inPg (q0 := 3) (ci := 6) (k := 6) rfl rfl (by decide) xl_X5_44 rfl rfl hd kk
theorem xp_X5_44 (C : CallFix p m c cc nL s args lwg RX5) (hW : WI g.1 (xw g) (xty g) A s σ H locs) {v : Int32} (hv : isB v) (hd : decode cc pc = .ok (.putfield 44, 3)) (kk : ∀ (σ1 : XS) (H : Heap) (locs : List Loc), σ1 = xsP σ 6 v → WI g.1 (xw g) (xty g) A s σ1 H locs → W p l e R s m args below meth c H locs cells slots Q (F0 m (pc + 3) ls rest)) : W p l e R s m args below meth c H locs cells slots Q (F0 m pc ls (.int v :: .ref (g.2.1 3) :: rest)) := w_put C hW inPg tyX5 tyX5_ok nmX5 (q0 := 3) (ci := 6) (k := 6) rfl rfl (by decide) xl_X5_44 rfl rfl (isB_nar hv) (isB_fit hv) (Nat.le_of_ble_eq_true rfl) rfl hd kk
theorem xl_X5_47 : Cond.fieldLink RX5 47 "HermitsSpoon$Page" (TX5 7).2.1 (TX5 7).2.2.1 ∈ lwg := lwg_at 142 (by decide +kernel) rfl
theorem xg_X5_47 (C : CallFix p m c cc nL s args lwg RX5) (hW : WI g.1 (xw g) (xty g) A s σ H locs) (hd : decode cc pc = .ok (.getfield 47, 3)) (kk : W p l e R s m args below meth c H locs cells slots Q (F0 m (pc + 3) ls (.int (xP σ 7) :: rest))) : W p l e R s m args below meth c H locs cells slots Q (F0 m pc ls (.ref (g.2.1 3) :: rest)) := w_get C hW inPg (q0 := 3) (ci := 6) (k := 7) rfl rfl (by decide) xl_X5_47 rfl rfl hd kk
theorem xp_X5_47 (C : CallFix p m c cc nL s args lwg RX5) (hW : WI g.1 (xw g) (xty g) A s σ H locs) {v : Int32} (hd : decode cc pc = .ok (.putfield 47, 3)) (kk : ∀ (σ1 : XS) (H : Heap) (locs : List Loc), σ1 = xsP σ 7 v → WI g.1 (xw g) (xty g) A s σ1 H locs → W p l e R s m args below meth c H locs cells slots Q (F0 m (pc + 3) ls rest)) : W p l e R s m args below meth c H locs cells slots Q (F0 m pc ls (.int v :: .ref (g.2.1 3) :: rest)) := w_put C hW inPg tyX5 tyX5_ok nmX5 (q0 := 3) (ci := 6) (k := 7) rfl rfl (by decide) xl_X5_47 rfl rfl rfl rfl (Nat.le_of_ble_eq_true rfl) rfl hd kk
theorem xl_X6_9 : Cond.fieldLink RX6 9 "HermitsSpoon$Sitting" (TX6 1).2.1 (TX6 1).2.2.1 ∈ lwg := lwg_at 205 (by decide +kernel) rfl
theorem xg_X6_9 (C : CallFix p m c cc nL s args lwg RX6) (hW : WI g.1 (xw g) (xty g) A s σ H locs) (hd : decode cc pc = .ok (.getfield 9, 3)) (kk : W p l e R s m args below meth c H locs cells slots Q (F0 m (pc + 3) ls (.ref (g.2.1 18) :: rest))) : W p l e R s m args below meth c H locs cells slots Q (F0 m pc ls (.ref (g.2.1 17) :: rest)) := w_get C hW inSg (q0 := 17) (ci := 7) (k := 1) rfl rfl (by decide) xl_X6_9 rfl rfl hd kk
theorem xl_X6_15 : Cond.fieldLink RX6 15 "HermitsSpoon$Sitting" (TX6 8).2.1 (TX6 8).2.2.1 ∈ lwg := lwg_at 215 (by decide +kernel) rfl
theorem xg_X6_15 (C : CallFix p m c cc nL s args lwg RX6) (hW : WI g.1 (xw g) (xty g) A s σ H locs) (hd : decode cc pc = .ok (.getfield 15, 3)) (kk : W p l e R s m args below meth c H locs cells slots Q (F0 m (pc + 3) ls (.ref (rA g 0) :: rest))) : W p l e R s m args below meth c H locs cells slots Q (F0 m pc ls (.ref (g.2.1 17) :: rest)) := w_get C hW inSg (q0 := 17) (ci := 7) (k := 8) rfl rfl (by decide) xl_X6_15 rfl rfl hd kk
theorem xl_X6_18 : Cond.fieldLink RX6 18 "HermitsSpoon$Sitting" (TX6 9).2.1 (TX6 9).2.2.1 ∈ lwg := lwg_at 218 (by decide +kernel) rfl
theorem xg_X6_18 (C : CallFix p m c cc nL s args lwg RX6) (hW : WI g.1 (xw g) (xty g) A s σ H locs) (hd : decode cc pc = .ok (.getfield 18, 3)) (kk : W p l e R s m args below meth c H locs cells slots Q (F0 m (pc + 3) ls (.ref (g.2.1 20) :: rest))) : W p l e R s m args below meth c H locs cells slots Q (F0 m pc ls (.ref (g.2.1 17) :: rest)) := w_get C hW inSg (q0 := 17) (ci := 7) (k := 9) rfl rfl (by decide) xl_X6_18 rfl rfl hd kk
theorem xl_X6_21 : Cond.fieldLink RX6 21 "HermitsSpoon$Sitting" (TX6 10).2.1 (TX6 10).2.2.1 ∈ lwg := lwg_at 219 (by decide +kernel) rfl
theorem xg_X6_21 (C : CallFix p m c cc nL s args lwg RX6) (hW : WI g.1 (xw g) (xty g) A s σ H locs) (hd : decode cc pc = .ok (.getfield 21, 3)) (kk : W p l e R s m args below meth c H locs cells slots Q (F0 m (pc + 3) ls (.ref (g.2.1 21) :: rest))) : W p l e R s m args below meth c H locs cells slots Q (F0 m pc ls (.ref (g.2.1 17) :: rest)) := w_get C hW inSg (q0 := 17) (ci := 7) (k := 10) rfl rfl (by decide) xl_X6_21 rfl rfl hd kk
theorem xl_X6_24 : Cond.fieldLink RX6 24 "HermitsSpoon$Sitting" (TX6 13).2.1 (TX6 13).2.2.1 ∈ lwg := lwg_at 224 (by decide +kernel) rfl
theorem xg_X6_24 (C : CallFix p m c cc nL s args lwg RX6) (hW : WI g.1 (xw g) (xty g) A s σ H locs) (hd : decode cc pc = .ok (.getfield 24, 3)) (kk : W p l e R s m args below meth c H locs cells slots Q (F0 m (pc + 3) ls (.ref (g.2.1 22) :: rest))) : W p l e R s m args below meth c H locs cells slots Q (F0 m pc ls (.ref (g.2.1 17) :: rest)) := w_get C hW inSg (q0 := 17) (ci := 7) (k := 13) rfl rfl (by decide) xl_X6_24 rfl rfl hd kk
theorem xl_X6_27 : Cond.fieldLink RX6 27 "HermitsSpoon$Sitting" (TX6 0).2.1 (TX6 0).2.2.1 ∈ lwg := lwg_at 204 (by decide +kernel) rfl
theorem xg_X6_27 (C : CallFix p m c cc nL s args lwg RX6) (hW : WI g.1 (xw g) (xty g) A s σ H locs) (hd : decode cc pc = .ok (.getfield 27, 3)) (kk : W p l e R s m args below meth c H locs cells slots Q (F0 m (pc + 3) ls (.ref (tA g (xC σ)) :: rest))) : W p l e R s m args below meth c H locs cells slots Q (F0 m pc ls (.ref (g.2.1 17) :: rest)) := w_get C hW inSg (q0 := 17) (ci := 7) (k := 0) rfl rfl (by decide) xl_X6_27 rfl rfl hd kk
theorem xp_X6_27 (C : CallFix p m c cc nL s args lwg RX6) (hW : WI g.1 (xw g) (xty g) A s σ H locs) {u : Fin 3} (hd : decode cc pc = .ok (.putfield 27, 3)) (kk : ∀ (σ1 : XS) (H : Heap) (locs : List Loc), σ1 = xsC σ u → WI g.1 (xw g) (xty g) A s σ1 H locs → W p l e R s m args below meth c H locs cells slots Q (F0 m (pc + 3) ls rest)) : W p l e R s m args below meth c H locs cells slots Q (F0 m pc ls (.ref (tA g u) :: .ref (g.2.1 17) :: rest)) := w_put C hW inSg tyX6 tyX6_ok nmX6 (q0 := 17) (ci := 7) (k := 0) rfl rfl (by decide) xl_X6_27 rfl rfl rfl rfl (Nat.le_of_ble_eq_true rfl) rfl hd kk
theorem xl_X6_31 : Cond.fieldLink RX6 31 "HermitsSpoon$Table" (TX8 3).2.1 (TX8 3).2.2.1 ∈ lwg := lwg_at 177 (by decide +kernel) rfl
theorem xg_X6_31 (C : CallFix p m c cc nL s args lwg RX6) (hW : WI g.1 (xw g) (xty g) A s σ H locs) {t : Fin 3} (hd : decode cc pc = .ok (.getfield 31, 3)) (kk : W p l e R s m args below meth c H locs cells slots Q (F0 m (pc + 3) ls (.ref (tB g t 2) :: rest))) : W p l e R s m args below meth c H locs cells slots Q (F0 m pc ls (.ref (tA g t) :: rest)) := w_get C hW inTg (q0 := 5 + 4 * t.val) (ci := 9) (k := 3) (xw_T g σ t) rfl (by decide) xl_X6_31 rfl rfl hd kk
theorem xl_X6_40 : Cond.fieldLink RX6 40 "HermitsSpoon$Table" (TX8 4).2.1 (TX8 4).2.2.1 ∈ lwg := lwg_at 180 (by decide +kernel) rfl
theorem xg_X6_40 (C : CallFix p m c cc nL s args lwg RX6) (hW : WI g.1 (xw g) (xty g) A s σ H locs) {t : Fin 3} (hd : decode cc pc = .ok (.getfield 40, 3)) (kk : W p l e R s m args below meth c H locs cells slots Q (F0 m (pc + 3) ls (.int (xTI σ t 4) :: rest))) : W p l e R s m args below meth c H locs cells slots Q (F0 m pc ls (.ref (tA g t) :: rest)) := w_get C hW inTg (q0 := 5 + 4 * t.val) (ci := 9) (k := 4) (xw_T g σ t) rfl (by decide) xl_X6_40 rfl rfl hd kk
theorem xl_X6_44 : Cond.fieldLink RX6 44 "HermitsSpoon$Sitting" (TX6 2).2.1 (TX6 2).2.2.1 ∈ lwg := lwg_at 206 (by decide +kernel) rfl
theorem xg_X6_44 (C : CallFix p m c cc nL s args lwg RX6) (hW : WI g.1 (xw g) (xty g) A s σ H locs) (hd : decode cc pc = .ok (.getfield 44, 3)) (kk : W p l e R s m args below meth c H locs cells slots Q (F0 m (pc + 3) ls (.int (xSI σ 2) :: rest))) : W p l e R s m args below meth c H locs cells slots Q (F0 m pc ls (.ref (g.2.1 17) :: rest)) := w_get C hW inSg (q0 := 17) (ci := 7) (k := 2) rfl rfl (by decide) xl_X6_44 rfl rfl hd kk
theorem xp_X6_44 (C : CallFix p m c cc nL s args lwg RX6) (hW : WI g.1 (xw g) (xty g) A s σ H locs) {v : Int32} (hd : decode cc pc = .ok (.putfield 44, 3)) (kk : ∀ (σ1 : XS) (H : Heap) (locs : List Loc), σ1 = xsSI σ 2 v → WI g.1 (xw g) (xty g) A s σ1 H locs → W p l e R s m args below meth c H locs cells slots Q (F0 m (pc + 3) ls rest)) : W p l e R s m args below meth c H locs cells slots Q (F0 m pc ls (.int v :: .ref (g.2.1 17) :: rest)) := w_put C hW inSg tyX6 tyX6_ok nmX6 (q0 := 17) (ci := 7) (k := 2) rfl rfl (by decide) xl_X6_44 rfl rfl rfl rfl (Nat.le_of_ble_eq_true rfl) rfl hd kk
theorem xl_X6_49 : Cond.fieldLink RX6 49 "HermitsSpoon$Sitting" (TX6 3).2.1 (TX6 3).2.2.1 ∈ lwg := lwg_at 207 (by decide +kernel) rfl
theorem xg_X6_49 (C : CallFix p m c cc nL s args lwg RX6) (hW : WI g.1 (xw g) (xty g) A s σ H locs) (hd : decode cc pc = .ok (.getfield 49, 3)) (kk : W p l e R s m args below meth c H locs cells slots Q (F0 m (pc + 3) ls (.int (xSI σ 3) :: rest))) : W p l e R s m args below meth c H locs cells slots Q (F0 m pc ls (.ref (g.2.1 17) :: rest)) := w_get C hW inSg (q0 := 17) (ci := 7) (k := 3) rfl rfl (by decide) xl_X6_49 rfl rfl hd kk
theorem xp_X6_49 (C : CallFix p m c cc nL s args lwg RX6) (hW : WI g.1 (xw g) (xty g) A s σ H locs) {v : Int32} (hd : decode cc pc = .ok (.putfield 49, 3)) (kk : ∀ (σ1 : XS) (H : Heap) (locs : List Loc), σ1 = xsSI σ 3 v → WI g.1 (xw g) (xty g) A s σ1 H locs → W p l e R s m args below meth c H locs cells slots Q (F0 m (pc + 3) ls rest)) : W p l e R s m args below meth c H locs cells slots Q (F0 m pc ls (.int v :: .ref (g.2.1 17) :: rest)) := w_put C hW inSg tyX6 tyX6_ok nmX6 (q0 := 17) (ci := 7) (k := 3) rfl rfl (by decide) xl_X6_49 rfl rfl rfl rfl (Nat.le_of_ble_eq_true rfl) rfl hd kk
theorem xl_X6_52 : Cond.fieldLink RX6 52 "HermitsSpoon$Sitting" (TX6 4).2.1 (TX6 4).2.2.1 ∈ lwg := lwg_at 209 (by decide +kernel) rfl
theorem xg_X6_52 (C : CallFix p m c cc nL s args lwg RX6) (hW : WI g.1 (xw g) (xty g) A s σ H locs) (hd : decode cc pc = .ok (.getfield 52, 3)) (kk : W p l e R s m args below meth c H locs cells slots Q (F0 m (pc + 3) ls (.int (xSI σ 4) :: rest))) : W p l e R s m args below meth c H locs cells slots Q (F0 m pc ls (.ref (g.2.1 17) :: rest)) := w_get C hW inSg (q0 := 17) (ci := 7) (k := 4) rfl rfl (by decide) xl_X6_52 rfl rfl hd kk
theorem xp_X6_52 (C : CallFix p m c cc nL s args lwg RX6) (hW : WI g.1 (xw g) (xty g) A s σ H locs) {v : Int32} (hd : decode cc pc = .ok (.putfield 52, 3)) (kk : ∀ (σ1 : XS) (H : Heap) (locs : List Loc), σ1 = xsSI σ 4 v → WI g.1 (xw g) (xty g) A s σ1 H locs → W p l e R s m args below meth c H locs cells slots Q (F0 m (pc + 3) ls rest)) : W p l e R s m args below meth c H locs cells slots Q (F0 m pc ls (.int v :: .ref (g.2.1 17) :: rest)) := w_put C hW inSg tyX6 tyX6_ok nmX6 (q0 := 17) (ci := 7) (k := 4) rfl rfl (by decide) xl_X6_52 rfl rfl rfl rfl (Nat.le_of_ble_eq_true rfl) rfl hd kk
theorem xl_X6_55 : Cond.fieldLink RX6 55 "HermitsSpoon$Sitting" (TX6 5).2.1 (TX6 5).2.2.1 ∈ lwg := lwg_at 211 (by decide +kernel) rfl
theorem xg_X6_55 (C : CallFix p m c cc nL s args lwg RX6) (hW : WI g.1 (xw g) (xty g) A s σ H locs) (hd : decode cc pc = .ok (.getfield 55, 3)) (kk : W p l e R s m args below meth c H locs cells slots Q (F0 m (pc + 3) ls (.int (xSI σ 5) :: rest))) : W p l e R s m args below meth c H locs cells slots Q (F0 m pc ls (.ref (g.2.1 17) :: rest)) := w_get C hW inSg (q0 := 17) (ci := 7) (k := 5) rfl rfl (by decide) xl_X6_55 rfl rfl hd kk
theorem xp_X6_55 (C : CallFix p m c cc nL s args lwg RX6) (hW : WI g.1 (xw g) (xty g) A s σ H locs) {v : Int32} (hd : decode cc pc = .ok (.putfield 55, 3)) (kk : ∀ (σ1 : XS) (H : Heap) (locs : List Loc), σ1 = xsSI σ 5 v → WI g.1 (xw g) (xty g) A s σ1 H locs → W p l e R s m args below meth c H locs cells slots Q (F0 m (pc + 3) ls rest)) : W p l e R s m args below meth c H locs cells slots Q (F0 m pc ls (.int v :: .ref (g.2.1 17) :: rest)) := w_put C hW inSg tyX6 tyX6_ok nmX6 (q0 := 17) (ci := 7) (k := 5) rfl rfl (by decide) xl_X6_55 rfl rfl rfl rfl (Nat.le_of_ble_eq_true rfl) rfl hd kk
theorem xl_X6_58 : Cond.fieldLink RX6 58 "HermitsSpoon$Sitting" (TX6 6).2.1 (TX6 6).2.2.1 ∈ lwg := lwg_at 212 (by decide +kernel) rfl
theorem xg_X6_58 (C : CallFix p m c cc nL s args lwg RX6) (hW : WI g.1 (xw g) (xty g) A s σ H locs) (hd : decode cc pc = .ok (.getfield 58, 3)) (kk : W p l e R s m args below meth c H locs cells slots Q (F0 m (pc + 3) ls (.int (xSI σ 6) :: rest))) : W p l e R s m args below meth c H locs cells slots Q (F0 m pc ls (.ref (g.2.1 17) :: rest)) := w_get C hW inSg (q0 := 17) (ci := 7) (k := 6) rfl rfl (by decide) xl_X6_58 rfl rfl hd kk
theorem xp_X6_58 (C : CallFix p m c cc nL s args lwg RX6) (hW : WI g.1 (xw g) (xty g) A s σ H locs) {v : Int32} (hd : decode cc pc = .ok (.putfield 58, 3)) (kk : ∀ (σ1 : XS) (H : Heap) (locs : List Loc), σ1 = xsSI σ 6 v → WI g.1 (xw g) (xty g) A s σ1 H locs → W p l e R s m args below meth c H locs cells slots Q (F0 m (pc + 3) ls rest)) : W p l e R s m args below meth c H locs cells slots Q (F0 m pc ls (.int v :: .ref (g.2.1 17) :: rest)) := w_put C hW inSg tyX6 tyX6_ok nmX6 (q0 := 17) (ci := 7) (k := 6) rfl rfl (by decide) xl_X6_58 rfl rfl rfl rfl (Nat.le_of_ble_eq_true rfl) rfl hd kk
theorem xl_X6_61 : Cond.fieldLink RX6 61 "HermitsSpoon$Sitting" (TX6 7).2.1 (TX6 7).2.2.1 ∈ lwg := lwg_at 214 (by decide +kernel) rfl
theorem xg_X6_61 (C : CallFix p m c cc nL s args lwg RX6) (hW : WI g.1 (xw g) (xty g) A s σ H locs) (hd : decode cc pc = .ok (.getfield 61, 3)) (kk : W p l e R s m args below meth c H locs cells slots Q (F0 m (pc + 3) ls (.int (xSI σ 7) :: rest))) : W p l e R s m args below meth c H locs cells slots Q (F0 m pc ls (.ref (g.2.1 17) :: rest)) := w_get C hW inSg (q0 := 17) (ci := 7) (k := 7) rfl rfl (by decide) xl_X6_61 rfl rfl hd kk
theorem xp_X6_61 (C : CallFix p m c cc nL s args lwg RX6) (hW : WI g.1 (xw g) (xty g) A s σ H locs) {v : Int32} (hd : decode cc pc = .ok (.putfield 61, 3)) (kk : ∀ (σ1 : XS) (H : Heap) (locs : List Loc), σ1 = xsSI σ 7 v → WI g.1 (xw g) (xty g) A s σ1 H locs → W p l e R s m args below meth c H locs cells slots Q (F0 m (pc + 3) ls rest)) : W p l e R s m args below meth c H locs cells slots Q (F0 m pc ls (.int v :: .ref (g.2.1 17) :: rest)) := w_put C hW inSg tyX6 tyX6_ok nmX6 (q0 := 17) (ci := 7) (k := 7) rfl rfl (by decide) xl_X6_61 rfl rfl rfl rfl (Nat.le_of_ble_eq_true rfl) rfl hd kk
theorem xl_X6_64 : Cond.fieldLink RX6 64 "HermitsSpoon$Sitting" (TX6 11).2.1 (TX6 11).2.2.1 ∈ lwg := lwg_at 220 (by decide +kernel) rfl
theorem xg_X6_64 (C : CallFix p m c cc nL s args lwg RX6) (hW : WI g.1 (xw g) (xty g) A s σ H locs) (hd : decode cc pc = .ok (.getfield 64, 3)) (kk : W p l e R s m args below meth c H locs cells slots Q (F0 m (pc + 3) ls (.int (xSI σ 11) :: rest))) : W p l e R s m args below meth c H locs cells slots Q (F0 m pc ls (.ref (g.2.1 17) :: rest)) := w_get C hW inSg (q0 := 17) (ci := 7) (k := 11) rfl rfl (by decide) xl_X6_64 rfl rfl hd kk
theorem xp_X6_64 (C : CallFix p m c cc nL s args lwg RX6) (hW : WI g.1 (xw g) (xty g) A s σ H locs) {v : Int32} (hd : decode cc pc = .ok (.putfield 64, 3)) (kk : ∀ (σ1 : XS) (H : Heap) (locs : List Loc), σ1 = xsSI σ 11 v → WI g.1 (xw g) (xty g) A s σ1 H locs → W p l e R s m args below meth c H locs cells slots Q (F0 m (pc + 3) ls rest)) : W p l e R s m args below meth c H locs cells slots Q (F0 m pc ls (.int v :: .ref (g.2.1 17) :: rest)) := w_put C hW inSg tyX6 tyX6_ok nmX6 (q0 := 17) (ci := 7) (k := 11) rfl rfl (by decide) xl_X6_64 rfl rfl rfl rfl (Nat.le_of_ble_eq_true rfl) rfl hd kk
theorem xl_X6_67 : Cond.fieldLink RX6 67 "HermitsSpoon$Sitting" (TX6 12).2.1 (TX6 12).2.2.1 ∈ lwg := lwg_at 222 (by decide +kernel) rfl
theorem xg_X6_67 (C : CallFix p m c cc nL s args lwg RX6) (hW : WI g.1 (xw g) (xty g) A s σ H locs) (hd : decode cc pc = .ok (.getfield 67, 3)) (kk : W p l e R s m args below meth c H locs cells slots Q (F0 m (pc + 3) ls (.int (xSI σ 12) :: rest))) : W p l e R s m args below meth c H locs cells slots Q (F0 m pc ls (.ref (g.2.1 17) :: rest)) := w_get C hW inSg (q0 := 17) (ci := 7) (k := 12) rfl rfl (by decide) xl_X6_67 rfl rfl hd kk
theorem xp_X6_67 (C : CallFix p m c cc nL s args lwg RX6) (hW : WI g.1 (xw g) (xty g) A s σ H locs) {v : Int32} (hd : decode cc pc = .ok (.putfield 67, 3)) (kk : ∀ (σ1 : XS) (H : Heap) (locs : List Loc), σ1 = xsSI σ 12 v → WI g.1 (xw g) (xty g) A s σ1 H locs → W p l e R s m args below meth c H locs cells slots Q (F0 m (pc + 3) ls rest)) : W p l e R s m args below meth c H locs cells slots Q (F0 m pc ls (.int v :: .ref (g.2.1 17) :: rest)) := w_put C hW inSg tyX6 tyX6_ok nmX6 (q0 := 17) (ci := 7) (k := 12) rfl rfl (by decide) xl_X6_67 rfl rfl rfl rfl (Nat.le_of_ble_eq_true rfl) rfl hd kk
theorem xl_X6_74 : Cond.fieldLink RX6 74 "HermitsSpoon$Vow" (TX9 1).2.1 (TX9 1).2.2.1 ∈ lwg := lwg_at 350 (by decide +kernel) rfl
theorem xg_X6_74 (C : CallFix p m c cc nL s args lwg RX6) (hW : WI g.1 (xw g) (xty g) A s σ H locs) {v : Fin (nV g)} (hd : decode cc pc = .ok (.getfield 74, 3)) (kk : W p l e R s m args below meth c H locs cells slots Q (F0 m (pc + 3) ls (.int (vF1 g v) :: rest))) : W p l e R s m args below meth c H locs cells slots Q (F0 m pc ls (.ref (vA g v) :: rest)) := by
  obtain ⟨q, he⟩ := xw_V g σ v
  exact w_get C hW inVg he rfl (k := 1) (by decide) xl_X6_74 rfl rfl hd kk
theorem xl_X6_111 : Cond.fieldLink RX6 111 "HermitsSpoon$Vow" (TX9 0).2.1 (TX9 0).2.2.1 ∈ lwg := lwg_at 346 (by decide +kernel) rfl
theorem xg_X6_111 (C : CallFix p m c cc nL s args lwg RX6) (hW : WI g.1 (xw g) (xty g) A s σ H locs) {v : Fin (nV g)} (hd : decode cc pc = .ok (.getfield 111, 3)) (kk : W p l e R s m args below meth c H locs cells slots Q (F0 m (pc + 3) ls (.int (vF0 g v) :: rest))) : W p l e R s m args below meth c H locs cells slots Q (F0 m pc ls (.ref (vA g v) :: rest)) := by
  obtain ⟨q, he⟩ := xw_V g σ v
  exact w_get C hW inVg he rfl (k := 0) (by decide) xl_X6_111 rfl rfl hd kk
theorem xl_X6_119 : Cond.fieldLink RX6 119 "HermitsSpoon$Table" (TX8 0).2.1 (TX8 0).2.2.1 ∈ lwg := lwg_at 169 (by decide +kernel) rfl
theorem xg_X6_119 (C : CallFix p m c cc nL s args lwg RX6) (hW : WI g.1 (xw g) (xty g) A s σ H locs) {t : Fin 3} (hd : decode cc pc = .ok (.getfield 119, 3)) (kk : W p l e R s m args below meth c H locs cells slots Q (F0 m (pc + 3) ls (.ref (g.2.1 1) :: rest))) : W p l e R s m args below meth c H locs cells slots Q (F0 m pc ls (.ref (tA g t) :: rest)) := w_get C hW inTg (q0 := 5 + 4 * t.val) (ci := 9) (k := 0) (xw_T g σ t) rfl (by decide) xl_X6_119 rfl rfl hd kk
theorem xl_X6_138 : Cond.fieldLink RX6 138 "HermitsSpoon$Hermit" (TX4 1).2.1 (TX4 1).2.2.1 ∈ lwg := lwg_at 484 (by decide +kernel) rfl
theorem xg_X6_138 (C : CallFix p m c cc nL s args lwg RX6) (hW : WI g.1 (xw g) (xty g) A s σ H locs) {j : Fin (nH g)} (hd : decode cc pc = .ok (.getfield 138, 3)) (kk : W p l e R s m args below meth c H locs cells slots Q (F0 m (pc + 3) ls (.int (hF1 g j) :: rest))) : W p l e R s m args below meth c H locs cells slots Q (F0 m pc ls (.ref (hA g j) :: rest)) :=
  fin5 (P := fun kd => (xw g σ)[36 + j.val]? = some (hA g j, .inr (kc kd, [.int (hF0 g j), .int (hF1 g j), .int (hF2 g j), .int (hF3 g j)])) → W p l e R s m args below meth c H locs cells slots Q (F0 m pc ls (.ref (hA g j) :: rest))) (hK g j)
    (fun he => w_get C hW inK0g he rfl (k := 1) (by decide) xl_X6_138 rfl rfl hd kk)
    (fun he => w_get C hW inK1g he rfl (k := 1) (by decide) xl_X6_138 rfl rfl hd kk)
    (fun he => w_get C hW inK2g he rfl (k := 1) (by decide) xl_X6_138 rfl rfl hd kk)
    (fun he => w_get C hW inK3g he rfl (k := 1) (by decide) xl_X6_138 rfl rfl hd kk)
    (fun he => w_get C hW inK4g he rfl (k := 1) (by decide) xl_X6_138 rfl rfl hd kk)
    (xw_H g σ j)
theorem xl_X6_145 : Cond.fieldLink RX6 145 "HermitsSpoon$Table" (TX8 2).2.1 (TX8 2).2.2.1 ∈ lwg := lwg_at 174 (by decide +kernel) rfl
theorem xg_X6_145 (C : CallFix p m c cc nL s args lwg RX6) (hW : WI g.1 (xw g) (xty g) A s σ H locs) {t : Fin 3} (hd : decode cc pc = .ok (.getfield 145, 3)) (kk : W p l e R s m args below meth c H locs cells slots Q (F0 m (pc + 3) ls (.ref (tB g t 1) :: rest))) : W p l e R s m args below meth c H locs cells slots Q (F0 m pc ls (.ref (tA g t) :: rest)) := w_get C hW inTg (q0 := 5 + 4 * t.val) (ci := 9) (k := 2) (xw_T g σ t) rfl (by decide) xl_X6_145 rfl rfl hd kk
theorem xl_X6_152 : Cond.fieldLink RX6 152 "HermitsSpoon$Vow" (TX9 3).2.1 (TX9 3).2.2.1 ∈ lwg := lwg_at 355 (by decide +kernel) rfl
theorem xg_X6_152 (C : CallFix p m c cc nL s args lwg RX6) (hW : WI g.1 (xw g) (xty g) A s σ H locs) {v : Fin (nV g)} (hd : decode cc pc = .ok (.getfield 152, 3)) (kk : W p l e R s m args below meth c H locs cells slots Q (F0 m (pc + 3) ls (.int (vF3 g v) :: rest))) : W p l e R s m args below meth c H locs cells slots Q (F0 m pc ls (.ref (vA g v) :: rest)) := by
  obtain ⟨q, he⟩ := xw_V g σ v
  exact w_get C hW inVg he rfl (k := 3) (by decide) xl_X6_152 rfl rfl hd kk
theorem xl_X6_155 : Cond.fieldLink RX6 155 "HermitsSpoon$Vow" (TX9 2).2.1 (TX9 2).2.2.1 ∈ lwg := lwg_at 353 (by decide +kernel) rfl
theorem xg_X6_155 (C : CallFix p m c cc nL s args lwg RX6) (hW : WI g.1 (xw g) (xty g) A s σ H locs) {v : Fin (nV g)} (hd : decode cc pc = .ok (.getfield 155, 3)) (kk : W p l e R s m args below meth c H locs cells slots Q (F0 m (pc + 3) ls (.int (vF2 g v) :: rest))) : W p l e R s m args below meth c H locs cells slots Q (F0 m pc ls (.ref (vA g v) :: rest)) := by
  obtain ⟨q, he⟩ := xw_V g σ v
  exact w_get C hW inVg he rfl (k := 2) (by decide) xl_X6_155 rfl rfl hd kk
theorem xl_X6_188 : Cond.fieldLink RX6 188 "HermitsSpoon$Hermit" (TX4 3).2.1 (TX4 3).2.2.1 ∈ lwg := lwg_at 491 (by decide +kernel) rfl
theorem xg_X6_188 (C : CallFix p m c cc nL s args lwg RX6) (hW : WI g.1 (xw g) (xty g) A s σ H locs) {j : Fin (nH g)} (hd : decode cc pc = .ok (.getfield 188, 3)) (kk : W p l e R s m args below meth c H locs cells slots Q (F0 m (pc + 3) ls (.int (hF3 g j) :: rest))) : W p l e R s m args below meth c H locs cells slots Q (F0 m pc ls (.ref (hA g j) :: rest)) :=
  fin5 (P := fun kd => (xw g σ)[36 + j.val]? = some (hA g j, .inr (kc kd, [.int (hF0 g j), .int (hF1 g j), .int (hF2 g j), .int (hF3 g j)])) → W p l e R s m args below meth c H locs cells slots Q (F0 m pc ls (.ref (hA g j) :: rest))) (hK g j)
    (fun he => w_get C hW inK0g he rfl (k := 3) (by decide) xl_X6_188 rfl rfl hd kk)
    (fun he => w_get C hW inK1g he rfl (k := 3) (by decide) xl_X6_188 rfl rfl hd kk)
    (fun he => w_get C hW inK2g he rfl (k := 3) (by decide) xl_X6_188 rfl rfl hd kk)
    (fun he => w_get C hW inK3g he rfl (k := 3) (by decide) xl_X6_188 rfl rfl hd kk)
    (fun he => w_get C hW inK4g he rfl (k := 3) (by decide) xl_X6_188 rfl rfl hd kk)
    (xw_H g σ j)
theorem xl_X6_202 : Cond.fieldLink RX6 202 "HermitsSpoon$Table" (TX8 5).2.1 (TX8 5).2.2.1 ∈ lwg := lwg_at 184 (by decide +kernel) rfl
theorem xg_X6_202 (C : CallFix p m c cc nL s args lwg RX6) (hW : WI g.1 (xw g) (xty g) A s σ H locs) {t : Fin 3} (hd : decode cc pc = .ok (.getfield 202, 3)) (kk : W p l e R s m args below meth c H locs cells slots Q (F0 m (pc + 3) ls (.int (xTI σ t 5) :: rest))) : W p l e R s m args below meth c H locs cells slots Q (F0 m pc ls (.ref (tA g t) :: rest)) := w_get C hW inTg (q0 := 5 + 4 * t.val) (ci := 9) (k := 5) (xw_T g σ t) rfl (by decide) xl_X6_202 rfl rfl hd kk
theorem xl_X6_205 : Cond.fieldLink RX6 205 "HermitsSpoon$Hermit" (TX4 2).2.1 (TX4 2).2.2.1 ∈ lwg := lwg_at 488 (by decide +kernel) rfl
theorem xg_X6_205 (C : CallFix p m c cc nL s args lwg RX6) (hW : WI g.1 (xw g) (xty g) A s σ H locs) {j : Fin (nH g)} (hd : decode cc pc = .ok (.getfield 205, 3)) (kk : W p l e R s m args below meth c H locs cells slots Q (F0 m (pc + 3) ls (.int (hF2 g j) :: rest))) : W p l e R s m args below meth c H locs cells slots Q (F0 m pc ls (.ref (hA g j) :: rest)) :=
  fin5 (P := fun kd => (xw g σ)[36 + j.val]? = some (hA g j, .inr (kc kd, [.int (hF0 g j), .int (hF1 g j), .int (hF2 g j), .int (hF3 g j)])) → W p l e R s m args below meth c H locs cells slots Q (F0 m pc ls (.ref (hA g j) :: rest))) (hK g j)
    (fun he => w_get C hW inK0g he rfl (k := 2) (by decide) xl_X6_205 rfl rfl hd kk)
    (fun he => w_get C hW inK1g he rfl (k := 2) (by decide) xl_X6_205 rfl rfl hd kk)
    (fun he => w_get C hW inK2g he rfl (k := 2) (by decide) xl_X6_205 rfl rfl hd kk)
    (fun he => w_get C hW inK3g he rfl (k := 2) (by decide) xl_X6_205 rfl rfl hd kk)
    (fun he => w_get C hW inK4g he rfl (k := 2) (by decide) xl_X6_205 rfl rfl hd kk)
    (xw_H g σ j)
theorem xl_X7_9 : Cond.fieldLink RX7 9 "HermitsSpoon$Slow" (TX4 0).2.1 (TX4 0).2.2.1 ∈ lwg := lwg_at 480 (by decide +kernel) rfl
theorem xg_X7_9 (C : CallFix p m c cc nL s args lwg RX7) (hW : WI g.1 (xw g) (xty g) A s σ H locs) {j : Fin (nH g)} (hd : decode cc pc = .ok (.getfield 9, 3)) (kk : W p l e R s m args below meth c H locs cells slots Q (F0 m (pc + 3) ls (.int (hF0 g j) :: rest))) : W p l e R s m args below meth c H locs cells slots Q (F0 m pc ls (.ref (hA g j) :: rest)) :=
  fin5 (P := fun kd => (xw g σ)[36 + j.val]? = some (hA g j, .inr (kc kd, [.int (hF0 g j), .int (hF1 g j), .int (hF2 g j), .int (hF3 g j)])) → W p l e R s m args below meth c H locs cells slots Q (F0 m pc ls (.ref (hA g j) :: rest))) (hK g j)
    (fun he => w_getS C hW inK0g he rfl (k := 0) (by decide) xl_X7_9 (lwg_at 481 (by decide +kernel) rfl) rfl hd kk)
    (fun he => w_getS C hW inK1g he rfl (k := 0) (by decide) xl_X7_9 (lwg_at 481 (by decide +kernel) rfl) rfl hd kk)
    (fun he => w_getS C hW inK2g he rfl (k := 0) (by decide) xl_X7_9 (lwg_at 481 (by decide +kernel) rfl) rfl hd kk)
    (fun he => w_getS C hW inK3g he rfl (k := 0) (by decide) xl_X7_9 (lwg_at 481 (by decide +kernel) rfl) rfl hd kk)
    (fun he => w_getS C hW inK4g he rfl (k := 0) (by decide) xl_X7_9 (lwg_at 481 (by decide +kernel) rfl) rfl hd kk)
    (xw_H g σ j)
theorem xl_X8_9 : Cond.fieldLink RX8 9 "HermitsSpoon$Table" (TX8 1).2.1 (TX8 1).2.2.1 ∈ lwg := lwg_at 170 (by decide +kernel) rfl
theorem xg_X8_9 (C : CallFix p m c cc nL s args lwg RX8) (hW : WI g.1 (xw g) (xty g) A s σ H locs) {t : Fin 3} (hd : decode cc pc = .ok (.getfield 9, 3)) (kk : W p l e R s m args below meth c H locs cells slots Q (F0 m (pc + 3) ls (.ref (tB g t 0) :: rest))) : W p l e R s m args below meth c H locs cells slots Q (F0 m pc ls (.ref (tA g t) :: rest)) := w_get C hW inTg (q0 := 5 + 4 * t.val) (ci := 9) (k := 1) (xw_T g σ t) rfl (by decide) xl_X8_9 rfl rfl hd kk
theorem xl_X8_15 : Cond.fieldLink RX8 15 "HermitsSpoon$Table" (TX8 2).2.1 (TX8 2).2.2.1 ∈ lwg := lwg_at 172 (by decide +kernel) rfl
theorem xg_X8_15 (C : CallFix p m c cc nL s args lwg RX8) (hW : WI g.1 (xw g) (xty g) A s σ H locs) {t : Fin 3} (hd : decode cc pc = .ok (.getfield 15, 3)) (kk : W p l e R s m args below meth c H locs cells slots Q (F0 m (pc + 3) ls (.ref (tB g t 1) :: rest))) : W p l e R s m args below meth c H locs cells slots Q (F0 m pc ls (.ref (tA g t) :: rest)) := w_get C hW inTg (q0 := 5 + 4 * t.val) (ci := 9) (k := 2) (xw_T g σ t) rfl (by decide) xl_X8_15 rfl rfl hd kk
theorem xl_X8_18 : Cond.fieldLink RX8 18 "HermitsSpoon$Table" (TX8 3).2.1 (TX8 3).2.2.1 ∈ lwg := lwg_at 176 (by decide +kernel) rfl
theorem xg_X8_18 (C : CallFix p m c cc nL s args lwg RX8) (hW : WI g.1 (xw g) (xty g) A s σ H locs) {t : Fin 3} (hd : decode cc pc = .ok (.getfield 18, 3)) (kk : W p l e R s m args below meth c H locs cells slots Q (F0 m (pc + 3) ls (.ref (tB g t 2) :: rest))) : W p l e R s m args below meth c H locs cells slots Q (F0 m pc ls (.ref (tA g t) :: rest)) := w_get C hW inTg (q0 := 5 + 4 * t.val) (ci := 9) (k := 3) (xw_T g σ t) rfl (by decide) xl_X8_18 rfl rfl hd kk
theorem xl_X8_21 : Cond.fieldLink RX8 21 "HermitsSpoon$Table" (TX8 4).2.1 (TX8 4).2.2.1 ∈ lwg := lwg_at 179 (by decide +kernel) rfl
theorem xg_X8_21 (C : CallFix p m c cc nL s args lwg RX8) (hW : WI g.1 (xw g) (xty g) A s σ H locs) {t : Fin 3} (hd : decode cc pc = .ok (.getfield 21, 3)) (kk : W p l e R s m args below meth c H locs cells slots Q (F0 m (pc + 3) ls (.int (xTI σ t 4) :: rest))) : W p l e R s m args below meth c H locs cells slots Q (F0 m pc ls (.ref (tA g t) :: rest)) := w_get C hW inTg (q0 := 5 + 4 * t.val) (ci := 9) (k := 4) (xw_T g σ t) rfl (by decide) xl_X8_21 rfl rfl hd kk
theorem xp_X8_21 (C : CallFix p m c cc nL s args lwg RX8) (hW : WI g.1 (xw g) (xty g) A s σ H locs) {t : Fin 3} {v : Int32} (hd : decode cc pc = .ok (.putfield 21, 3)) (kk : ∀ (σ1 : XS) (H : Heap) (locs : List Loc), σ1 = xsTI σ t 4 v → WI g.1 (xw g) (xty g) A s σ1 H locs → W p l e R s m args below meth c H locs cells slots Q (F0 m (pc + 3) ls rest)) : W p l e R s m args below meth c H locs cells slots Q (F0 m pc ls (.int v :: .ref (tA g t) :: rest)) := w_put C hW inTg tyX8 tyX8_ok nmX8 (q0 := 5 + 4 * t.val) (ci := 9) (k := 4) (xw_T g σ t) rfl (by decide) xl_X8_21 rfl rfl rfl rfl (Nat.le_of_ble_eq_true rfl) (by obtain ⟨t, ht⟩ := t; rcases (show t = 0 ∨ t = 1 ∨ t = 2 by omega) with rfl | rfl | rfl <;> rfl) hd kk
theorem xl_X8_25 : Cond.fieldLink RX8 25 "HermitsSpoon$Table" (TX8 0).2.1 (TX8 0).2.2.1 ∈ lwg := lwg_at 167 (by decide +kernel) rfl
theorem xg_X8_25 (C : CallFix p m c cc nL s args lwg RX8) (hW : WI g.1 (xw g) (xty g) A s σ H locs) {t : Fin 3} (hd : decode cc pc = .ok (.getfield 25, 3)) (kk : W p l e R s m args below meth c H locs cells slots Q (F0 m (pc + 3) ls (.ref (g.2.1 1) :: rest))) : W p l e R s m args below meth c H locs cells slots Q (F0 m pc ls (.ref (tA g t) :: rest)) := w_get C hW inTg (q0 := 5 + 4 * t.val) (ci := 9) (k := 0) (xw_T g σ t) rfl (by decide) xl_X8_25 rfl rfl hd kk
theorem xl_X8_35 : Cond.fieldLink RX8 35 "HermitsSpoon$Table" (TX8 5).2.1 (TX8 5).2.2.1 ∈ lwg := lwg_at 182 (by decide +kernel) rfl
theorem xg_X8_35 (C : CallFix p m c cc nL s args lwg RX8) (hW : WI g.1 (xw g) (xty g) A s σ H locs) {t : Fin 3} (hd : decode cc pc = .ok (.getfield 35, 3)) (kk : W p l e R s m args below meth c H locs cells slots Q (F0 m (pc + 3) ls (.int (xTI σ t 5) :: rest))) : W p l e R s m args below meth c H locs cells slots Q (F0 m pc ls (.ref (tA g t) :: rest)) := w_get C hW inTg (q0 := 5 + 4 * t.val) (ci := 9) (k := 5) (xw_T g σ t) rfl (by decide) xl_X8_35 rfl rfl hd kk
theorem xp_X8_35 (C : CallFix p m c cc nL s args lwg RX8) (hW : WI g.1 (xw g) (xty g) A s σ H locs) {t : Fin 3} {v : Int32} (hv : isB v) (hd : decode cc pc = .ok (.putfield 35, 3)) (kk : ∀ (σ1 : XS) (H : Heap) (locs : List Loc), σ1 = xsTI σ t 5 v → WI g.1 (xw g) (xty g) A s σ1 H locs → W p l e R s m args below meth c H locs cells slots Q (F0 m (pc + 3) ls rest)) : W p l e R s m args below meth c H locs cells slots Q (F0 m pc ls (.int v :: .ref (tA g t) :: rest)) := w_put C hW inTg tyX8 tyX8_ok nmX8 (q0 := 5 + 4 * t.val) (ci := 9) (k := 5) (xw_T g σ t) rfl (by decide) xl_X8_35 rfl rfl (isB_nar hv) (isB_fit hv) (Nat.le_of_ble_eq_true rfl) (by obtain ⟨t, ht⟩ := t; rcases (show t = 0 ∨ t = 1 ∨ t = 2 by omega) with rfl | rfl | rfl <;> rfl) hd kk
theorem xl_X8_69 : Cond.fieldLink RX8 69 "HermitsSpoon$Hermit" (TX4 1).2.1 (TX4 1).2.2.1 ∈ lwg := lwg_at 485 (by decide +kernel) rfl
theorem xg_X8_69 (C : CallFix p m c cc nL s args lwg RX8) (hW : WI g.1 (xw g) (xty g) A s σ H locs) {j : Fin (nH g)} (hd : decode cc pc = .ok (.getfield 69, 3)) (kk : W p l e R s m args below meth c H locs cells slots Q (F0 m (pc + 3) ls (.int (hF1 g j) :: rest))) : W p l e R s m args below meth c H locs cells slots Q (F0 m pc ls (.ref (hA g j) :: rest)) :=
  fin5 (P := fun kd => (xw g σ)[36 + j.val]? = some (hA g j, .inr (kc kd, [.int (hF0 g j), .int (hF1 g j), .int (hF2 g j), .int (hF3 g j)])) → W p l e R s m args below meth c H locs cells slots Q (F0 m pc ls (.ref (hA g j) :: rest))) (hK g j)
    (fun he => w_get C hW inK0g he rfl (k := 1) (by decide) xl_X8_69 rfl rfl hd kk)
    (fun he => w_get C hW inK1g he rfl (k := 1) (by decide) xl_X8_69 rfl rfl hd kk)
    (fun he => w_get C hW inK2g he rfl (k := 1) (by decide) xl_X8_69 rfl rfl hd kk)
    (fun he => w_get C hW inK3g he rfl (k := 1) (by decide) xl_X8_69 rfl rfl hd kk)
    (fun he => w_get C hW inK4g he rfl (k := 1) (by decide) xl_X8_69 rfl rfl hd kk)
    (xw_H g σ j)
theorem xl_X9_7 : Cond.fieldLink RX9 7 "HermitsSpoon$Page" (TX5 4).2.1 (TX5 4).2.2.1 ∈ lwg := lwg_at 135 (by decide +kernel) rfl
theorem xg_X9_7 (C : CallFix p m c cc nL s args lwg RX9) (hW : WI g.1 (xw g) (xty g) A s σ H locs) (hd : decode cc pc = .ok (.getfield 7, 3)) (kk : W p l e R s m args below meth c H locs cells slots Q (F0 m (pc + 3) ls (.int (xP σ 4) :: rest))) : W p l e R s m args below meth c H locs cells slots Q (F0 m pc ls (.ref (g.2.1 3) :: rest)) := w_get C hW inPg (q0 := 3) (ci := 6) (k := 4) rfl rfl (by decide) xl_X9_7 rfl rfl hd kk
theorem xl_X9_13 : Cond.fieldLink RX9 13 "HermitsSpoon$Vow" (TX9 0).2.1 (TX9 0).2.2.1 ∈ lwg := lwg_at 345 (by decide +kernel) rfl
theorem xg_X9_13 (C : CallFix p m c cc nL s args lwg RX9) (hW : WI g.1 (xw g) (xty g) A s σ H locs) {v : Fin (nV g)} (hd : decode cc pc = .ok (.getfield 13, 3)) (kk : W p l e R s m args below meth c H locs cells slots Q (F0 m (pc + 3) ls (.int (vF0 g v) :: rest))) : W p l e R s m args below meth c H locs cells slots Q (F0 m pc ls (.ref (vA g v) :: rest)) := by
  obtain ⟨q, he⟩ := xw_V g σ v
  exact w_get C hW inVg he rfl (k := 0) (by decide) xl_X9_13 rfl rfl hd kk
theorem xl_X9_16 : Cond.fieldLink RX9 16 "HermitsSpoon$Page" (TX5 5).2.1 (TX5 5).2.2.1 ∈ lwg := lwg_at 137 (by decide +kernel) rfl
theorem xg_X9_16 (C : CallFix p m c cc nL s args lwg RX9) (hW : WI g.1 (xw g) (xty g) A s σ H locs) (hd : decode cc pc = .ok (.getfield 16, 3)) (kk : W p l e R s m args below meth c H locs cells slots Q (F0 m (pc + 3) ls (.int (xP σ 5) :: rest))) : W p l e R s m args below meth c H locs cells slots Q (F0 m pc ls (.ref (g.2.1 3) :: rest)) := w_get C hW inPg (q0 := 3) (ci := 6) (k := 5) rfl rfl (by decide) xl_X9_16 rfl rfl hd kk
theorem xl_X9_20 : Cond.fieldLink RX9 20 "HermitsSpoon$Vow" (TX9 1).2.1 (TX9 1).2.2.1 ∈ lwg := lwg_at 348 (by decide +kernel) rfl
theorem xg_X9_20 (C : CallFix p m c cc nL s args lwg RX9) (hW : WI g.1 (xw g) (xty g) A s σ H locs) {v : Fin (nV g)} (hd : decode cc pc = .ok (.getfield 20, 3)) (kk : W p l e R s m args below meth c H locs cells slots Q (F0 m (pc + 3) ls (.int (vF1 g v) :: rest))) : W p l e R s m args below meth c H locs cells slots Q (F0 m pc ls (.ref (vA g v) :: rest)) := by
  obtain ⟨q, he⟩ := xw_V g σ v
  exact w_get C hW inVg he rfl (k := 1) (by decide) xl_X9_20 rfl rfl hd kk
theorem xl_X9_21 : Cond.fieldLink RX9 21 "HermitsSpoon$Page" (TX5 6).2.1 (TX5 6).2.2.1 ∈ lwg := lwg_at 139 (by decide +kernel) rfl
theorem xg_X9_21 (C : CallFix p m c cc nL s args lwg RX9) (hW : WI g.1 (xw g) (xty g) A s σ H locs) (hd : decode cc pc = .ok (.getfield 21, 3)) (kk : W p l e R s m args below meth c H locs cells slots Q (F0 m (pc + 3) ls (.int (xP σ 6) :: rest))) : W p l e R s m args below meth c H locs cells slots Q (F0 m pc ls (.ref (g.2.1 3) :: rest)) := w_get C hW inPg (q0 := 3) (ci := 6) (k := 6) rfl rfl (by decide) xl_X9_21 rfl rfl hd kk
theorem xl_X9_24 : Cond.fieldLink RX9 24 "HermitsSpoon$Vow" (TX9 2).2.1 (TX9 2).2.2.1 ∈ lwg := lwg_at 352 (by decide +kernel) rfl
theorem xg_X9_24 (C : CallFix p m c cc nL s args lwg RX9) (hW : WI g.1 (xw g) (xty g) A s σ H locs) {v : Fin (nV g)} (hd : decode cc pc = .ok (.getfield 24, 3)) (kk : W p l e R s m args below meth c H locs cells slots Q (F0 m (pc + 3) ls (.int (vF2 g v) :: rest))) : W p l e R s m args below meth c H locs cells slots Q (F0 m pc ls (.ref (vA g v) :: rest)) := by
  obtain ⟨q, he⟩ := xw_V g σ v
  exact w_get C hW inVg he rfl (k := 2) (by decide) xl_X9_24 rfl rfl hd kk
theorem xl_X9_25 : Cond.fieldLink RX9 25 "HermitsSpoon$Page" (TX5 7).2.1 (TX5 7).2.2.1 ∈ lwg := lwg_at 141 (by decide +kernel) rfl
theorem xg_X9_25 (C : CallFix p m c cc nL s args lwg RX9) (hW : WI g.1 (xw g) (xty g) A s σ H locs) (hd : decode cc pc = .ok (.getfield 25, 3)) (kk : W p l e R s m args below meth c H locs cells slots Q (F0 m (pc + 3) ls (.int (xP σ 7) :: rest))) : W p l e R s m args below meth c H locs cells slots Q (F0 m pc ls (.ref (g.2.1 3) :: rest)) := w_get C hW inPg (q0 := 3) (ci := 6) (k := 7) rfl rfl (by decide) xl_X9_25 rfl rfl hd kk
theorem xl_X9_28 : Cond.fieldLink RX9 28 "HermitsSpoon$Vow" (TX9 3).2.1 (TX9 3).2.2.1 ∈ lwg := lwg_at 354 (by decide +kernel) rfl
theorem xg_X9_28 (C : CallFix p m c cc nL s args lwg RX9) (hW : WI g.1 (xw g) (xty g) A s σ H locs) {v : Fin (nV g)} (hd : decode cc pc = .ok (.getfield 28, 3)) (kk : W p l e R s m args below meth c H locs cells slots Q (F0 m (pc + 3) ls (.int (vF3 g v) :: rest))) : W p l e R s m args below meth c H locs cells slots Q (F0 m pc ls (.ref (vA g v) :: rest)) := by
  obtain ⟨q, he⟩ := xw_V g σ v
  exact w_get C hW inVg he rfl (k := 3) (by decide) xl_X9_28 rfl rfl hd kk
theorem xl_Jx4a65c_9 : Cond.fieldLink RJx4a65c 9 "java/util/ArrayList" (TJx4a65c 1).2.1 (TJx4a65c 1).2.2.1 ∈ lwg := lwg_at 109 (by decide +kernel) rfl
theorem xg_Jx4a65c_9_H (C : CallFix p m c cc nL s args lwg RJx4a65c) (hW : WI g.1 (xw g) (xty g) A s σ H locs) (hd : decode cc pc = .ok (.getfield 9, 3)) (kk : W p l e R s m args below meth c H locs cells slots Q (F0 m (pc + 3) ls (.ref g.2.2.2.2.2.1.2.1 :: rest))) : W p l e R s m args below meth c H locs cells slots Q (F0 m pc ls (.ref (g.2.1 1) :: rest)) := w_get C hW inLg (q0 := 1) (ci := 0) (k := 1) rfl rfl (by decide) xl_Jx4a65c_9 rfl rfl hd kk
theorem xg_Jx4a65c_9_V (C : CallFix p m c cc nL s args lwg RJx4a65c) (hW : WI g.1 (xw g) (xty g) A s σ H locs) (hd : decode cc pc = .ok (.getfield 9, 3)) (kk : W p l e R s m args below meth c H locs cells slots Q (F0 m (pc + 3) ls (.ref g.2.2.2.2.2.2.2.1 :: rest))) : W p l e R s m args below meth c H locs cells slots Q (F0 m pc ls (.ref (g.2.1 2) :: rest)) := w_get C hW inLg (q0 := 2) (ci := 0) (k := 1) rfl rfl (by decide) xl_Jx4a65c_9 rfl rfl hd kk
theorem xl_Jx4a65c_48 : Cond.fieldLink RJx4a65c 48 "java/util/ArrayList" (TJx4a65c 2).2.1 (TJx4a65c 2).2.2.1 ∈ lwg := lwg_at 110 (by decide +kernel) rfl
theorem xg_Jx4a65c_48_H (C : CallFix p m c cc nL s args lwg RJx4a65c) (hW : WI g.1 (xw g) (xty g) A s σ H locs) (hd : decode cc pc = .ok (.getfield 48, 3)) (kk : W p l e R s m args below meth c H locs cells slots Q (F0 m (pc + 3) ls (.int (nI (nH g)) :: rest))) : W p l e R s m args below meth c H locs cells slots Q (F0 m pc ls (.ref (g.2.1 1) :: rest)) := w_get C hW inLg (q0 := 1) (ci := 0) (k := 2) rfl rfl (by decide) xl_Jx4a65c_48 rfl rfl hd kk
theorem xg_Jx4a65c_48_V (C : CallFix p m c cc nL s args lwg RJx4a65c) (hW : WI g.1 (xw g) (xty g) A s σ H locs) (hd : decode cc pc = .ok (.getfield 48, 3)) (kk : W p l e R s m args below meth c H locs cells slots Q (F0 m (pc + 3) ls (.int (nI (nV g)) :: rest))) : W p l e R s m args below meth c H locs cells slots Q (F0 m pc ls (.ref (g.2.1 2) :: rest)) := w_get C hW inLg (q0 := 2) (ci := 0) (k := 2) rfl rfl (by decide) xl_Jx4a65c_48 rfl rfl hd kk
theorem xl_Jx4a65c_63 : Cond.fieldLink RJx4a65c 63 "java/util/ArrayList" (TJx4a65c 0).2.1 (TJx4a65c 0).2.2.1 ∈ lwg := lwg_at 112 (by decide +kernel) rfl
theorem xg_Jx4a65c_63_H (C : CallFix p m c cc nL s args lwg RJx4a65c) (hW : WI g.1 (xw g) (xty g) A s σ H locs) (hd : decode cc pc = .ok (.getfield 63, 3)) (kk : W p l e R s m args below meth c H locs cells slots Q (F0 m (pc + 3) ls (.int g.2.2.2.2.2.1.1 :: rest))) : W p l e R s m args below meth c H locs cells slots Q (F0 m pc ls (.ref (g.2.1 1) :: rest)) := w_getS C hW inLg (q0 := 1) (ci := 0) (k := 0) rfl rfl (by decide) xl_Jx4a65c_63 (lwg_at 113 (by decide +kernel) rfl) rfl hd kk
theorem xg_Jx4a65c_63_V (C : CallFix p m c cc nL s args lwg RJx4a65c) (hW : WI g.1 (xw g) (xty g) A s σ H locs) (hd : decode cc pc = .ok (.getfield 63, 3)) (kk : W p l e R s m args below meth c H locs cells slots Q (F0 m (pc + 3) ls (.int g.2.2.2.2.2.2.1 :: rest))) : W p l e R s m args below meth c H locs cells slots Q (F0 m pc ls (.ref (g.2.1 2) :: rest)) := w_getS C hW inLg (q0 := 2) (ci := 0) (k := 0) rfl rfl (by decide) xl_Jx4a65c_63 (lwg_at 113 (by decide +kernel) rfl) rfl hd kk
theorem xa_S (C : CallFix p m c cc nL s args lwg own) (hW : WI g.1 (xw g) (xty g) A s σ H locs) {i : Int32} (hin : vp_in i 16) (hd : decode cc pc = .ok (.iaload, 1)) (kk : W p l e R s m args below meth c H locs cells slots Q (F0 m (pc + 1) ls (.int (xgS σ i) :: rest))) : W p l e R s m args below meth c H locs cells slots Q (F0 m pc ls (.int i :: .ref (g.2.1 4) :: rest)) := w_ald C hW (q0 := 4) (t0 := 0) rfl rfl hin hd kk
theorem xs_S (C : CallFix p m c cc nL s args lwg own) (hW : WI g.1 (xw g) (xty g) A s σ H locs) {i v : Int32} (hin : vp_in i 16) (hd : decode cc pc = .ok (.iastore, 1)) (kk : ∀ (σ1 : XS) (H : Heap) (locs : List Loc), σ1 = xsS σ i v → WI g.1 (xw g) (xty g) A s σ1 H locs → W p l e R s m args below meth c H locs cells slots Q (F0 m (pc + 1) ls rest)) : W p l e R s m args below meth c H locs cells slots Q (F0 m pc ls (.int v :: .int i :: .ref (g.2.1 4) :: rest)) := w_ast C hW (q0 := 4) (t0 := 0) rfl rfl rfl hin hd kk
theorem xa_T0 (C : CallFix p m c cc nL s args lwg own) (hW : WI g.1 (xw g) (xty g) A s σ H locs) {t : Fin 3} {i : Int32} (hin : vp_in i 10) (hd : decode cc pc = .ok (.iaload, 1)) (kk : W p l e R s m args below meth c H locs cells slots Q (F0 m (pc + 1) ls (.int (xgT σ t 0 i) :: rest))) : W p l e R s m args below meth c H locs cells slots Q (F0 m pc ls (.int i :: .ref (tB g t 0) :: rest)) := w_ald C hW (q0 := 5 + 4 * t.val + 1 + 0) (t0 := 0) (xw_B g σ t 0 10 (Or.inl ⟨rfl, rfl⟩)) rfl hin hd kk
theorem xs_T0 (C : CallFix p m c cc nL s args lwg own) (hW : WI g.1 (xw g) (xty g) A s σ H locs) {t : Fin 3} {i v : Int32} (hin : vp_in i 10) (hd : decode cc pc = .ok (.iastore, 1)) (kk : ∀ (σ1 : XS) (H : Heap) (locs : List Loc), σ1 = xsTB σ t 0 i v → WI g.1 (xw g) (xty g) A s σ1 H locs → W p l e R s m args below meth c H locs cells slots Q (F0 m (pc + 1) ls rest)) : W p l e R s m args below meth c H locs cells slots Q (F0 m pc ls (.int v :: .int i :: .ref (tB g t 0) :: rest)) := w_ast C hW (q0 := 5 + 4 * t.val + 1 + 0) (t0 := 0) (xw_B g σ t 0 10 (Or.inl ⟨rfl, rfl⟩)) rfl (xw_Bs g σ t 0 10 _ (Or.inl ⟨rfl, rfl⟩)) hin hd kk
theorem xa_T1 (C : CallFix p m c cc nL s args lwg own) (hW : WI g.1 (xw g) (xty g) A s σ H locs) {t : Fin 3} {i : Int32} (hin : vp_in i 10) (hd : decode cc pc = .ok (.iaload, 1)) (kk : W p l e R s m args below meth c H locs cells slots Q (F0 m (pc + 1) ls (.int (xgT σ t 1 i) :: rest))) : W p l e R s m args below meth c H locs cells slots Q (F0 m pc ls (.int i :: .ref (tB g t 1) :: rest)) := w_ald C hW (q0 := 5 + 4 * t.val + 1 + 1) (t0 := 0) (xw_B g σ t 1 10 (Or.inr (Or.inl ⟨rfl, rfl⟩))) rfl hin hd kk
theorem xs_T1 (C : CallFix p m c cc nL s args lwg own) (hW : WI g.1 (xw g) (xty g) A s σ H locs) {t : Fin 3} {i v : Int32} (hin : vp_in i 10) (hd : decode cc pc = .ok (.iastore, 1)) (kk : ∀ (σ1 : XS) (H : Heap) (locs : List Loc), σ1 = xsTB σ t 1 i v → WI g.1 (xw g) (xty g) A s σ1 H locs → W p l e R s m args below meth c H locs cells slots Q (F0 m (pc + 1) ls rest)) : W p l e R s m args below meth c H locs cells slots Q (F0 m pc ls (.int v :: .int i :: .ref (tB g t 1) :: rest)) := w_ast C hW (q0 := 5 + 4 * t.val + 1 + 1) (t0 := 0) (xw_B g σ t 1 10 (Or.inr (Or.inl ⟨rfl, rfl⟩))) rfl (xw_Bs g σ t 1 10 _ (Or.inr (Or.inl ⟨rfl, rfl⟩))) hin hd kk
theorem xa_T2 (C : CallFix p m c cc nL s args lwg own) (hW : WI g.1 (xw g) (xty g) A s σ H locs) {t : Fin 3} {i : Int32} (hin : vp_in i 5) (hd : decode cc pc = .ok (.iaload, 1)) (kk : W p l e R s m args below meth c H locs cells slots Q (F0 m (pc + 1) ls (.int (xgT σ t 2 i) :: rest))) : W p l e R s m args below meth c H locs cells slots Q (F0 m pc ls (.int i :: .ref (tB g t 2) :: rest)) := w_ald C hW (q0 := 5 + 4 * t.val + 1 + 2) (t0 := 0) (xw_B g σ t 2 5 (Or.inr (Or.inr ⟨rfl, rfl⟩))) rfl hin hd kk
theorem xs_T2 (C : CallFix p m c cc nL s args lwg own) (hW : WI g.1 (xw g) (xty g) A s σ H locs) {t : Fin 3} {i v : Int32} (hin : vp_in i 5) (hd : decode cc pc = .ok (.iastore, 1)) (kk : ∀ (σ1 : XS) (H : Heap) (locs : List Loc), σ1 = xsTB σ t 2 i v → WI g.1 (xw g) (xty g) A s σ1 H locs → W p l e R s m args below meth c H locs cells slots Q (F0 m (pc + 1) ls rest)) : W p l e R s m args below meth c H locs cells slots Q (F0 m pc ls (.int v :: .int i :: .ref (tB g t 2) :: rest)) := w_ast C hW (q0 := 5 + 4 * t.val + 1 + 2) (t0 := 0) (xw_B g σ t 2 5 (Or.inr (Or.inr ⟨rfl, rfl⟩))) rfl (xw_Bs g σ t 2 5 _ (Or.inr (Or.inr ⟨rfl, rfl⟩))) hin hd kk
theorem xa_A1 (C : CallFix p m c cc nL s args lwg own) (hW : WI g.1 (xw g) (xty g) A s σ H locs) {i : Int32} (hin : vp_in i 5) (hd : decode cc pc = .ok (.iaload, 1)) (kk : W p l e R s m args below meth c H locs cells slots Q (F0 m (pc + 1) ls (.int (xgA σ 1 i) :: rest))) : W p l e R s m args below meth c H locs cells slots Q (F0 m pc ls (.int i :: .ref (g.2.1 18) :: rest)) := w_ald C hW (q0 := 18) (t0 := 0) rfl rfl hin hd kk
theorem xs_A1 (C : CallFix p m c cc nL s args lwg own) (hW : WI g.1 (xw g) (xty g) A s σ H locs) {i v : Int32} (hin : vp_in i 5) (hd : decode cc pc = .ok (.iastore, 1)) (kk : ∀ (σ1 : XS) (H : Heap) (locs : List Loc), σ1 = xsSA σ 1 i v → WI g.1 (xw g) (xty g) A s σ1 H locs → W p l e R s m args below meth c H locs cells slots Q (F0 m (pc + 1) ls rest)) : W p l e R s m args below meth c H locs cells slots Q (F0 m pc ls (.int v :: .int i :: .ref (g.2.1 18) :: rest)) := w_ast C hW (q0 := 18) (t0 := 0) rfl rfl rfl hin hd kk
theorem xa_A9 (C : CallFix p m c cc nL s args lwg own) (hW : WI g.1 (xw g) (xty g) A s σ H locs) {i : Int32} (hin : vp_in i 10) (hd : decode cc pc = .ok (.iaload, 1)) (kk : W p l e R s m args below meth c H locs cells slots Q (F0 m (pc + 1) ls (.int (xgA σ 9 i) :: rest))) : W p l e R s m args below meth c H locs cells slots Q (F0 m pc ls (.int i :: .ref (g.2.1 20) :: rest)) := w_ald C hW (q0 := 20) (t0 := 0) rfl rfl hin hd kk
theorem xs_A9 (C : CallFix p m c cc nL s args lwg own) (hW : WI g.1 (xw g) (xty g) A s σ H locs) {i v : Int32} (hin : vp_in i 10) (hd : decode cc pc = .ok (.iastore, 1)) (kk : ∀ (σ1 : XS) (H : Heap) (locs : List Loc), σ1 = xsSA σ 9 i v → WI g.1 (xw g) (xty g) A s σ1 H locs → W p l e R s m args below meth c H locs cells slots Q (F0 m (pc + 1) ls rest)) : W p l e R s m args below meth c H locs cells slots Q (F0 m pc ls (.int v :: .int i :: .ref (g.2.1 20) :: rest)) := w_ast C hW (q0 := 20) (t0 := 0) rfl rfl rfl hin hd kk
theorem xa_A10 (C : CallFix p m c cc nL s args lwg own) (hW : WI g.1 (xw g) (xty g) A s σ H locs) {i : Int32} (hin : vp_in i 10) (hd : decode cc pc = .ok (.iaload, 1)) (kk : W p l e R s m args below meth c H locs cells slots Q (F0 m (pc + 1) ls (.int (xgA σ 10 i) :: rest))) : W p l e R s m args below meth c H locs cells slots Q (F0 m pc ls (.int i :: .ref (g.2.1 21) :: rest)) := w_ald C hW (q0 := 21) (t0 := 0) rfl rfl hin hd kk
theorem xs_A10 (C : CallFix p m c cc nL s args lwg own) (hW : WI g.1 (xw g) (xty g) A s σ H locs) {i v : Int32} (hin : vp_in i 10) (hd : decode cc pc = .ok (.iastore, 1)) (kk : ∀ (σ1 : XS) (H : Heap) (locs : List Loc), σ1 = xsSA σ 10 i v → WI g.1 (xw g) (xty g) A s σ1 H locs → W p l e R s m args below meth c H locs cells slots Q (F0 m (pc + 1) ls rest)) : W p l e R s m args below meth c H locs cells slots Q (F0 m pc ls (.int v :: .int i :: .ref (g.2.1 21) :: rest)) := w_ast C hW (q0 := 21) (t0 := 0) rfl rfl rfl hin hd kk
theorem xa_A13 (C : CallFix p m c cc nL s args lwg own) (hW : WI g.1 (xw g) (xty g) A s σ H locs) {i : Int32} (hin : vp_in i 5) (hd : decode cc pc = .ok (.iaload, 1)) (kk : W p l e R s m args below meth c H locs cells slots Q (F0 m (pc + 1) ls (.int (xgA σ 13 i) :: rest))) : W p l e R s m args below meth c H locs cells slots Q (F0 m pc ls (.int i :: .ref (g.2.1 22) :: rest)) := w_ald C hW (q0 := 22) (t0 := 0) rfl rfl hin hd kk
theorem xs_A13 (C : CallFix p m c cc nL s args lwg own) (hW : WI g.1 (xw g) (xty g) A s σ H locs) {i v : Int32} (hin : vp_in i 5) (hd : decode cc pc = .ok (.iastore, 1)) (kk : ∀ (σ1 : XS) (H : Heap) (locs : List Loc), σ1 = xsSA σ 13 i v → WI g.1 (xw g) (xty g) A s σ1 H locs → W p l e R s m args below meth c H locs cells slots Q (F0 m (pc + 1) ls rest)) : W p l e R s m args below meth c H locs cells slots Q (F0 m pc ls (.int v :: .int i :: .ref (g.2.1 22) :: rest)) := w_ast C hW (q0 := 22) (t0 := 0) rfl rfl rfl hin hd kk
theorem xa_R (C : CallFix p m c cc nL s args lwg own) (hW : WI g.1 (xw g) (xty g) A s σ H locs) {r : Fin 11} {i : Int32} (hin : vp_in i 10) (hd : decode cc pc = .ok (.iaload, 1)) (kk : W p l e R s m args below meth c H locs cells slots Q (F0 m (pc + 1) ls (.int (xgR σ r i) :: rest))) : W p l e R s m args below meth c H locs cells slots Q (F0 m pc ls (.int i :: .ref (rA g r) :: rest)) := w_ald C hW (q0 := rC r) (t0 := 0) (xw_R g σ r) rfl hin hd kk
theorem xs_R (C : CallFix p m c cc nL s args lwg own) (hW : WI g.1 (xw g) (xty g) A s σ H locs) {r : Fin 11} {i v : Int32} (hin : vp_in i 10) (hd : decode cc pc = .ok (.iastore, 1)) (kk : ∀ (σ1 : XS) (H : Heap) (locs : List Loc), σ1 = xsR σ r i v → WI g.1 (xw g) (xty g) A s σ1 H locs → W p l e R s m args below meth c H locs cells slots Q (F0 m (pc + 1) ls rest)) : W p l e R s m args below meth c H locs cells slots Q (F0 m pc ls (.int v :: .int i :: .ref (rA g r) :: rest)) := w_ast C hW (q0 := rC r) (t0 := 0) (xw_R g σ r) rfl (xw_Rs g σ r _) hin hd kk
theorem xa_O (C : CallFix p m c cc nL s args lwg own) (hW : WI g.1 (xw g) (xty g) A s σ H locs) {i : Int32} (hin : vp_in i 10) (hd : decode cc pc = .ok (.aaload, 1)) (kk : W p l e R s m args below meth c H locs cells slots Q (F0 m (pc + 1) ls (.ref (rA g (arow i)) :: rest))) : W p l e R s m args below meth c H locs cells slots Q (F0 m pc ls (.int i :: .ref (g.2.1 24) :: rest)) := by
  refine w_alda C hW (q0 := 24) (t0 := 1) rfl rfl hin hd ?_
  have hlt : i.toNatClampNeg < 10 := Nat.not_le.mp fun q => hin (Or.inr q)
  rw [if_pos hlt]
  have e : rA g (arow i) = g.2.1 (25 + i.toNatClampNeg) := by
    have ha : (arow i).val = i.toNatClampNeg + 1 := Nat.mod_eq_of_lt (by omega)
    unfold rA rC
    rw [ha, if_neg (by omega), show 24 + (i.toNatClampNeg + 1) = 25 + i.toNatClampNeg by omega]
  rw [e] at kk
  exact kk
theorem xcp_TT (C : CallFix p m c cc nL s args lwg RX8) (hW : WI g.1 (xw g) (xty g) A s σ H locs) {t u : Fin 3} (hRf : 1 ≤ R.frames) (hRl : 60 ≤ R.locals) (hls : ls.size = nL) (hro : (rest.map fun v => v.category).sum ≤ 8) (hd : decode cc pc = .ok (.invokestatic 29, 3)) (kk : ∀ (σ1 : XS) (H : Heap) (locs : List Loc), σ1 = xpTB σ t 2 (va_cpy (xTB σ u 2) (xTB σ t 2) 0 0 5) → WI g.1 (xw g) (xty g) A s σ1 H locs → W p l e R s m args below meth c H locs cells slots Q (F0 m (pc + 3) ls rest)) : W p l e R s m args below meth c H locs cells slots Q (F0 m pc ls (.int 5 :: .int 0 :: .ref (tB g t 2) :: .int 0 :: .ref (tB g u 2) :: rest)) := w_cpy C hW (lwg_at 808 (by decide +kernel) rfl) (lwg_at 422 (by decide +kernel) rfl) (lwg_at 421 (by decide +kernel) rfl) (lwg_at 79 (by decide +kernel) rfl) (q0 := 5 + 4 * u.val + 1 + 2) (q1 := 5 + 4 * t.val + 1 + 2) (t0 := 0) (N := 5) (xw_B g σ u 2 5 (Or.inr (Or.inr ⟨rfl, rfl⟩))) (xw_B g σ t 2 5 (Or.inr (Or.inr ⟨rfl, rfl⟩))) rfl (by decide) (by decide) (by decide) (by decide) (xw_Bs g σ t 2 5 _ (Or.inr (Or.inr ⟨rfl, rfl⟩))) hls hRf (Nat.le_trans (Nat.add_le_add_right hro _) (Nat.le_trans (by decide) hRl)) hd kk
theorem xcp_TS (C : CallFix p m c cc nL s args lwg RX6) (hW : WI g.1 (xw g) (xty g) A s σ H locs) {u : Fin 3} (hRf : 1 ≤ R.frames) (hRl : 60 ≤ R.locals) (hls : ls.size = nL) (hro : (rest.map fun v => v.category).sum ≤ 8) (hd : decode cc pc = .ok (.invokestatic 34, 3)) (kk : ∀ (σ1 : XS) (H : Heap) (locs : List Loc), σ1 = xpSA σ 1 (va_cpy (xTB σ u 2) (xSA σ 1) 0 0 5) → WI g.1 (xw g) (xty g) A s σ1 H locs → W p l e R s m args below meth c H locs cells slots Q (F0 m (pc + 3) ls rest)) : W p l e R s m args below meth c H locs cells slots Q (F0 m pc ls (.int 5 :: .int 0 :: .ref (g.2.1 18) :: .int 0 :: .ref (tB g u 2) :: rest)) := w_cpy C hW (lwg_at 638 (by decide +kernel) rfl) (lwg_at 422 (by decide +kernel) rfl) (lwg_at 421 (by decide +kernel) rfl) (lwg_at 79 (by decide +kernel) rfl) (q0 := 5 + 4 * u.val + 1 + 2) (q1 := 18) (t0 := 0) (N := 5) (xw_B g σ u 2 5 (Or.inr (Or.inr ⟨rfl, rfl⟩))) rfl rfl (by decide) (by decide) (by decide) (by decide) rfl hls hRf (Nat.le_trans (Nat.add_le_add_right hro _) (Nat.le_trans (by decide) hRl)) hd kk
theorem xcp_RR (C : CallFix p m c cc nL s args lwg RX0) (hW : WI g.1 (xw g) (xty g) A s σ H locs) {r : Fin 11} (hRf : 1 ≤ R.frames) (hRl : 60 ≤ R.locals) (hls : ls.size = nL) (hro : (rest.map fun v => v.category).sum ≤ 8) (hd : decode cc pc = .ok (.invokestatic 68, 3)) (kk : ∀ (σ1 : XS) (H : Heap) (locs : List Loc), σ1 = xpR σ r (va_cpy (xR σ 0) (xR σ r) 0 0 10) → WI g.1 (xw g) (xty g) A s σ1 H locs → W p l e R s m args below meth c H locs cells slots Q (F0 m (pc + 3) ls rest)) : W p l e R s m args below meth c H locs cells slots Q (F0 m pc ls (.int 10 :: .int 0 :: .ref (rA g r) :: .int 0 :: .ref (rA g 0) :: rest)) := w_cpy C hW (lwg_at 842 (by decide +kernel) rfl) (lwg_at 422 (by decide +kernel) rfl) (lwg_at 421 (by decide +kernel) rfl) (lwg_at 79 (by decide +kernel) rfl) (q0 := rC 0) (q1 := rC r) (t0 := 0) (N := 10) (xw_R g σ 0) (xw_R g σ r) rfl (by decide) (by decide) (by decide) (by decide) (xw_Rs g σ r _) hls hRf (Nat.le_trans (Nat.add_le_add_right hro _) (Nat.le_trans (by decide) hRl)) hd kk
theorem xm_X6_191 (C : CallFix p m c cc nL s args lwg RX6) (hRf : 1 ≤ R.frames) (hRl : 21 ≤ R.locals) (hls : ls.size = nL) (hro : (rest.map fun v => v.category).sum ≤ 8) {x y : Int32} (hd : decode cc pc = .ok (.invokestatic 191, 3)) (kk : W p l e R s m args below meth c H locs 0 0 Q (F0 m (pc + 3) ls (.int (if y < x then y else x) :: rest))) : W p l e R s m args below meth c H locs 0 0 Q (F0 m pc ls (.int y :: .int x :: rest)) := w_mmin C (lwg_at 731 (by decide +kernel) rfl) (lwg_at 418 (by decide +kernel) rfl) (lwg_at 77 (by decide +kernel) rfl) (lwg_at 419 (by decide +kernel) rfl) hls hRf (Nat.le_trans (Nat.add_le_add_right hro _) hRl) hd kk
theorem xm_X8_63 (C : CallFix p m c cc nL s args lwg RX8) (hRf : 1 ≤ R.frames) (hRl : 21 ≤ R.locals) (hls : ls.size = nL) (hro : (rest.map fun v => v.category).sum ≤ 8) {x y : Int32} (hd : decode cc pc = .ok (.invokestatic 63, 3)) (kk : W p l e R s m args below meth c H locs 0 0 Q (F0 m (pc + 3) ls (.int (if y < x then y else x) :: rest))) : W p l e R s m args below meth c H locs 0 0 Q (F0 m pc ls (.int y :: .int x :: rest)) := w_mmin C (lwg_at 827 (by decide +kernel) rfl) (lwg_at 418 (by decide +kernel) rfl) (lwg_at 77 (by decide +kernel) rfl) (lwg_at 419 (by decide +kernel) rfl) hls hRf (Nat.le_trans (Nat.add_le_add_right hro _) hRl) hd kk
theorem xm_X6_165 (C : CallFix p m c cc nL s args lwg RX6) (hRf : 1 ≤ R.frames) (hRl : 21 ≤ R.locals) (hls : ls.size = nL) (hro : (rest.map fun v => v.category).sum ≤ 8) {x y : Int32} (hd : decode cc pc = .ok (.invokestatic 165, 3)) (kk : W p l e R s m args below meth c H locs 0 0 Q (F0 m (pc + 3) ls (.int (if x < y then y else x) :: rest))) : W p l e R s m args below meth c H locs 0 0 Q (F0 m pc ls (.int y :: .int x :: rest)) := w_mmax C (lwg_at 755 (by decide +kernel) rfl) (lwg_at 385 (by decide +kernel) rfl) (lwg_at 77 (by decide +kernel) rfl) (lwg_at 386 (by decide +kernel) rfl) hls hRf (Nat.le_trans (Nat.add_le_add_right hro _) hRl) hd kk
theorem x_recvH (hW : WI g.1 (xw g) (xty g) A s σ H locs) (j : Fin (nH g)) {kd : Fin 5} (hk : hK g j = kd) {vc : vw_C} (hc : vwCl[kc kd]? = some vc) : ∃ cell : Cell, H[hA g j]? = some cell ∧ cell.vm.isStatics = false ∧ s.vm.findClass vc.1 = some cell.cls := by
  subst hk
  exact va_recv hW.2.2.1 hW.1 hc (xw_H g σ j)
theorem xc_X10_85 (C : CallFix p m c cc nL s args lwg RX10) (hW : WI g.1 (xw g) (xty g) A s σ H locs) {v : Fin (nV g)} (hd : decode cc pc = .ok (.checkcast 85, 3)) (kk : W p l e R s m args below meth c H locs cells slots Q (F0 m (pc + 3) ls (.ref (vA g v) :: rest))) : W p l e R s m args below meth c H locs cells slots Q (F0 m pc ls (.ref (vA g v) :: rest)) := by
  obtain ⟨q, he⟩ := xw_V g σ v
  exact va_castS C.1 C.2.1 C.2.2.2.1 (C.2.2.2.2 _ (lwg_at 339 (by decide +kernel) rfl)) (hW.2.2.1.1 10 _ rfl).2 (va_recv hW.2.2.1 hW.1 (ci := 10) rfl he) hd kk
theorem xc_X10_128 (C : CallFix p m c cc nL s args lwg RX10) (hW : WI g.1 (xw g) (xty g) A s σ H locs) {j : Fin (nH g)} (hd : decode cc pc = .ok (.checkcast 128, 3)) (kk : W p l e R s m args below meth c H locs cells slots Q (F0 m (pc + 3) ls (.ref (hA g j) :: rest))) : W p l e R s m args below meth c H locs cells slots Q (F0 m pc ls (.ref (hA g j) :: rest)) :=
  fin5 (P := fun kd => hK g j = kd → W p l e R s m args below meth c H locs cells slots Q (F0 m pc ls (.ref (hA g j) :: rest))) (hK g j)
    (fun hk => va_castS C.1 C.2.1 C.2.2.2.1 (C.2.2.2.2 _ (lwg_at 535 (by decide +kernel) rfl)) (hW.2.2.1.1 5 _ rfl).2 (x_recvH hW j hk rfl) hd kk)
    (fun hk => va_castY C.1 C.2.1 C.2.2.2.1 (C.2.2.2.2 _ (lwg_at 535 (by decide +kernel) rfl)) hW.2.2.2.2.2.2.1.2.2.2.1 (x_recvH hW j hk rfl) hd kk)
    (fun hk => va_castY C.1 C.2.1 C.2.2.2.1 (C.2.2.2.2 _ (lwg_at 535 (by decide +kernel) rfl)) hW.2.2.2.2.2.2.1.1 (x_recvH hW j hk rfl) hd kk)
    (fun hk => va_castY C.1 C.2.1 C.2.2.2.1 (C.2.2.2.2 _ (lwg_at 535 (by decide +kernel) rfl)) hW.2.2.2.2.2.2.1.2.2.1 (x_recvH hW j hk rfl) hd kk)
    (fun hk => va_castY C.1 C.2.1 C.2.2.2.1 (C.2.2.2.2 _ (lwg_at 535 (by decide +kernel) rfl)) hW.2.2.2.2.2.2.1.2.1 (x_recvH hW j hk rfl) hd kk)
    rfl
theorem xi_X4_24 (C : CallFix p m c cc nL s args lwg RX4) (hW : WI g.1 (xw g) (xty g) A s σ H locs) {j : Fin (nH g)} (hd : decode cc pc = .ok (.instanceof 24, 3)) (kk : W p l e R s m args below meth c H locs cells slots Q (F0 m (pc + 3) ls (.int (if hK g j = 1 ∨ hK g j = 4 then 1 else 0) :: rest))) : W p l e R s m args below meth c H locs cells slots Q (F0 m pc ls (.ref (hA g j) :: rest)) :=
  fin5 (P := fun kd => hK g j = kd → W p l e R s m args below meth c H locs cells slots Q (F0 m pc ls (.ref (hA g j) :: rest))) (hK g j)
    (fun hk => va_instNo C.1 C.2.1 C.2.2.2.1 (C.2.2.2.2 _ (lwg_at 560 (by decide +kernel) rfl)) (hW.2.2.2.2.2.1.1) (x_recvH hW j hk rfl) hd (by rw [if_neg (by rw [hk]; decide)] at kk; exact kk))
    (fun hk => va_instS C.1 C.2.1 C.2.2.2.1 (C.2.2.2.2 _ (lwg_at 560 (by decide +kernel) rfl)) (hW.2.2.1.1 8 _ rfl).2 (x_recvH hW j hk rfl) hd (by rw [if_pos (by first | (rw [hk]; done) | (rw [hk]; decide))] at kk; exact kk))
    (fun hk => va_instNo C.1 C.2.1 C.2.2.2.1 (C.2.2.2.2 _ (lwg_at 560 (by decide +kernel) rfl)) (hW.2.2.2.2.2.1.2.1) (x_recvH hW j hk rfl) hd (by rw [if_neg (by rw [hk]; decide)] at kk; exact kk))
    (fun hk => va_instNo C.1 C.2.1 C.2.2.2.1 (C.2.2.2.2 _ (lwg_at 560 (by decide +kernel) rfl)) (hW.2.2.2.2.2.1.2.2.1) (x_recvH hW j hk rfl) hd (by rw [if_neg (by rw [hk]; decide)] at kk; exact kk))
    (fun hk => va_instY C.1 C.2.1 C.2.2.2.1 (C.2.2.2.2 _ (lwg_at 560 (by decide +kernel) rfl)) hW.2.2.2.2.2.2.1.2.2.2.2.1 (x_recvH hW j hk rfl) hd (by rw [if_pos (by first | (rw [hk]; done) | (rw [hk]; decide))] at kk; exact kk))
    rfl
theorem xi_X4_26 (C : CallFix p m c cc nL s args lwg RX4) (hW : WI g.1 (xw g) (xty g) A s σ H locs) {j : Fin (nH g)} (hd : decode cc pc = .ok (.instanceof 26, 3)) (kk : W p l e R s m args below meth c H locs cells slots Q (F0 m (pc + 3) ls (.int (if hK g j = 2 then 1 else 0) :: rest))) : W p l e R s m args below meth c H locs cells slots Q (F0 m pc ls (.ref (hA g j) :: rest)) :=
  fin5 (P := fun kd => hK g j = kd → W p l e R s m args below meth c H locs cells slots Q (F0 m pc ls (.ref (hA g j) :: rest))) (hK g j)
    (fun hk => va_instNo C.1 C.2.1 C.2.2.2.1 (C.2.2.2.2 _ (lwg_at 561 (by decide +kernel) rfl)) (hW.2.2.2.2.2.1.2.2.2.1) (x_recvH hW j hk rfl) hd (by rw [if_neg (by rw [hk]; decide)] at kk; exact kk))
    (fun hk => va_instNo C.1 C.2.1 C.2.2.2.1 (C.2.2.2.2 _ (lwg_at 561 (by decide +kernel) rfl)) (hW.2.2.2.2.2.1.2.2.2.2.1) (x_recvH hW j hk rfl) hd (by rw [if_neg (by rw [hk]; decide)] at kk; exact kk))
    (fun hk => va_instS C.1 C.2.1 C.2.2.2.1 (C.2.2.2.2 _ (lwg_at 561 (by decide +kernel) rfl)) (hW.2.2.1.1 2 _ rfl).2 (x_recvH hW j hk rfl) hd (by rw [if_pos (by first | (rw [hk]; done) | (rw [hk]; decide))] at kk; exact kk))
    (fun hk => va_instNo C.1 C.2.1 C.2.2.2.1 (C.2.2.2.2 _ (lwg_at 561 (by decide +kernel) rfl)) (hW.2.2.2.2.2.1.2.2.2.2.2.1) (x_recvH hW j hk rfl) hd (by rw [if_neg (by rw [hk]; decide)] at kk; exact kk))
    (fun hk => va_instNo C.1 C.2.1 C.2.2.2.1 (C.2.2.2.2 _ (lwg_at 561 (by decide +kernel) rfl)) (hW.2.2.2.2.2.1.2.2.2.2.2.2.1) (x_recvH hW j hk rfl) hd (by rw [if_neg (by rw [hk]; decide)] at kk; exact kk))
    rfl
theorem xi_X4_28 (C : CallFix p m c cc nL s args lwg RX4) (hW : WI g.1 (xw g) (xty g) A s σ H locs) {j : Fin (nH g)} (hd : decode cc pc = .ok (.instanceof 28, 3)) (kk : W p l e R s m args below meth c H locs cells slots Q (F0 m (pc + 3) ls (.int (if hK g j = 3 then 1 else 0) :: rest))) : W p l e R s m args below meth c H locs cells slots Q (F0 m pc ls (.ref (hA g j) :: rest)) :=
  fin5 (P := fun kd => hK g j = kd → W p l e R s m args below meth c H locs cells slots Q (F0 m pc ls (.ref (hA g j) :: rest))) (hK g j)
    (fun hk => va_instNo C.1 C.2.1 C.2.2.2.1 (C.2.2.2.2 _ (lwg_at 562 (by decide +kernel) rfl)) (hW.2.2.2.2.2.1.2.2.2.2.2.2.2.1) (x_recvH hW j hk rfl) hd (by rw [if_neg (by rw [hk]; decide)] at kk; exact kk))
    (fun hk => va_instNo C.1 C.2.1 C.2.2.2.1 (C.2.2.2.2 _ (lwg_at 562 (by decide +kernel) rfl)) (hW.2.2.2.2.2.1.2.2.2.2.2.2.2.2.1) (x_recvH hW j hk rfl) hd (by rw [if_neg (by rw [hk]; decide)] at kk; exact kk))
    (fun hk => va_instNo C.1 C.2.1 C.2.2.2.1 (C.2.2.2.2 _ (lwg_at 562 (by decide +kernel) rfl)) (hW.2.2.2.2.2.1.2.2.2.2.2.2.2.2.2.1) (x_recvH hW j hk rfl) hd (by rw [if_neg (by rw [hk]; decide)] at kk; exact kk))
    (fun hk => va_instS C.1 C.2.1 C.2.2.2.1 (C.2.2.2.2 _ (lwg_at 562 (by decide +kernel) rfl)) (hW.2.2.1.1 4 _ rfl).2 (x_recvH hW j hk rfl) hd (by rw [if_pos (by first | (rw [hk]; done) | (rw [hk]; decide))] at kk; exact kk))
    (fun hk => va_instNo C.1 C.2.1 C.2.2.2.1 (C.2.2.2.2 _ (lwg_at 562 (by decide +kernel) rfl)) (hW.2.2.2.2.2.1.2.2.2.2.2.2.2.2.2.2.1) (x_recvH hW j hk rfl) hd (by rw [if_neg (by rw [hk]; decide)] at kk; exact kk))
    rfl
theorem xi_X4_30 (C : CallFix p m c cc nL s args lwg RX4) (hW : WI g.1 (xw g) (xty g) A s σ H locs) {j : Fin (nH g)} (hd : decode cc pc = .ok (.instanceof 30, 3)) (kk : W p l e R s m args below meth c H locs cells slots Q (F0 m (pc + 3) ls (.int (if hK g j = 4 then 1 else 0) :: rest))) : W p l e R s m args below meth c H locs cells slots Q (F0 m pc ls (.ref (hA g j) :: rest)) :=
  fin5 (P := fun kd => hK g j = kd → W p l e R s m args below meth c H locs cells slots Q (F0 m pc ls (.ref (hA g j) :: rest))) (hK g j)
    (fun hk => va_instNo C.1 C.2.1 C.2.2.2.1 (C.2.2.2.2 _ (lwg_at 563 (by decide +kernel) rfl)) (hW.2.2.2.2.2.1.2.2.2.2.2.2.2.2.2.2.2.1) (x_recvH hW j hk rfl) hd (by rw [if_neg (by rw [hk]; decide)] at kk; exact kk))
    (fun hk => va_instNo C.1 C.2.1 C.2.2.2.1 (C.2.2.2.2 _ (lwg_at 563 (by decide +kernel) rfl)) (hW.2.2.2.2.2.1.2.2.2.2.2.2.2.2.2.2.2.2.1) (x_recvH hW j hk rfl) hd (by rw [if_neg (by rw [hk]; decide)] at kk; exact kk))
    (fun hk => va_instNo C.1 C.2.1 C.2.2.2.1 (C.2.2.2.2 _ (lwg_at 563 (by decide +kernel) rfl)) (hW.2.2.2.2.2.1.2.2.2.2.2.2.2.2.2.2.2.2.2.1) (x_recvH hW j hk rfl) hd (by rw [if_neg (by rw [hk]; decide)] at kk; exact kk))
    (fun hk => va_instNo C.1 C.2.1 C.2.2.2.1 (C.2.2.2.2 _ (lwg_at 563 (by decide +kernel) rfl)) (hW.2.2.2.2.2.1.2.2.2.2.2.2.2.2.2.2.2.2.2.2) (x_recvH hW j hk rfl) hd (by rw [if_neg (by rw [hk]; decide)] at kk; exact kk))
    (fun hk => va_instS C.1 C.2.1 C.2.2.2.1 (C.2.2.2.2 _ (lwg_at 563 (by decide +kernel) rfl)) (hW.2.2.1.1 3 _ rfl).2 (x_recvH hW j hk rfl) hd (by rw [if_pos (by first | (rw [hk]; done) | (rw [hk]; decide))] at kk; exact kk))
    rfl
theorem xc_X6_104 (C : CallFix p m c cc nL s args lwg RX6) (hW : WI g.1 (xw g) (xty g) A s σ H locs) {j : Fin (nH g)} (hd : decode cc pc = .ok (.checkcast 104, 3)) (kk : W p l e R s m args below meth c H locs cells slots Q (F0 m (pc + 3) ls (.ref (hA g j) :: rest))) : W p l e R s m args below meth c H locs cells slots Q (F0 m pc ls (.ref (hA g j) :: rest)) :=
  fin5 (P := fun kd => hK g j = kd → W p l e R s m args below meth c H locs cells slots Q (F0 m pc ls (.ref (hA g j) :: rest))) (hK g j)
    (fun hk => va_castS C.1 C.2.1 C.2.2.2.1 (C.2.2.2.2 _ (lwg_at 665 (by decide +kernel) rfl)) (hW.2.2.1.1 5 _ rfl).2 (x_recvH hW j hk rfl) hd kk)
    (fun hk => va_castY C.1 C.2.1 C.2.2.2.1 (C.2.2.2.2 _ (lwg_at 665 (by decide +kernel) rfl)) hW.2.2.2.2.2.2.1.2.2.2.1 (x_recvH hW j hk rfl) hd kk)
    (fun hk => va_castY C.1 C.2.1 C.2.2.2.1 (C.2.2.2.2 _ (lwg_at 665 (by decide +kernel) rfl)) hW.2.2.2.2.2.2.1.1 (x_recvH hW j hk rfl) hd kk)
    (fun hk => va_castY C.1 C.2.1 C.2.2.2.1 (C.2.2.2.2 _ (lwg_at 665 (by decide +kernel) rfl)) hW.2.2.2.2.2.2.1.2.2.1 (x_recvH hW j hk rfl) hd kk)
    (fun hk => va_castY C.1 C.2.1 C.2.2.2.1 (C.2.2.2.2 _ (lwg_at 665 (by decide +kernel) rfl)) hW.2.2.2.2.2.2.1.2.1 (x_recvH hW j hk rfl) hd kk)
    rfl
theorem xc_X8_45 (C : CallFix p m c cc nL s args lwg RX8) (hW : WI g.1 (xw g) (xty g) A s σ H locs) {j : Fin (nH g)} (hd : decode cc pc = .ok (.checkcast 45, 3)) (kk : W p l e R s m args below meth c H locs cells slots Q (F0 m (pc + 3) ls (.ref (hA g j) :: rest))) : W p l e R s m args below meth c H locs cells slots Q (F0 m pc ls (.ref (hA g j) :: rest)) :=
  fin5 (P := fun kd => hK g j = kd → W p l e R s m args below meth c H locs cells slots Q (F0 m pc ls (.ref (hA g j) :: rest))) (hK g j)
    (fun hk => va_castS C.1 C.2.1 C.2.2.2.1 (C.2.2.2.2 _ (lwg_at 690 (by decide +kernel) rfl)) (hW.2.2.1.1 5 _ rfl).2 (x_recvH hW j hk rfl) hd kk)
    (fun hk => va_castY C.1 C.2.1 C.2.2.2.1 (C.2.2.2.2 _ (lwg_at 690 (by decide +kernel) rfl)) hW.2.2.2.2.2.2.1.2.2.2.1 (x_recvH hW j hk rfl) hd kk)
    (fun hk => va_castY C.1 C.2.1 C.2.2.2.1 (C.2.2.2.2 _ (lwg_at 690 (by decide +kernel) rfl)) hW.2.2.2.2.2.2.1.1 (x_recvH hW j hk rfl) hd kk)
    (fun hk => va_castY C.1 C.2.1 C.2.2.2.1 (C.2.2.2.2 _ (lwg_at 690 (by decide +kernel) rfl)) hW.2.2.2.2.2.2.1.2.2.1 (x_recvH hW j hk rfl) hd kk)
    (fun hk => va_castY C.1 C.2.1 C.2.2.2.1 (C.2.2.2.2 _ (lwg_at 690 (by decide +kernel) rfl)) hW.2.2.2.2.2.2.1.2.1 (x_recvH hW j hk rfl) hd kk)
    rfl
end XROWS
end
section
/-! the list methods that the component calls: size, isEmpty, get, with what they call -/
theorem mJ3_checkIndex_8e157 {l : Launch} {S : Type} {D : va_G} {ww : S → va_W} {ty : List (ClassId × FieldType)} {σ : S} {i n : Int32} (h0 : ¬ i < 0) (h1 : i < n) (sz : Nat) : Met l yJ3_checkIndex_8e157 (cws yJ3_checkIndex_8e157 cJ3_checkIndex_8e157 3 (some .int)) ({ frames := 0, cells := 0, slots := 0, locals := 0 } : Room) (va_Pc [.int i, .int n, .null] (WP D ww ty σ sz)) (va_Qi (fun r τ => r = i ∧ τ = σ) (WB D ww ty σ sz) (va_A (ww σ) sz)) 0 0 (va_A (ww σ) sz) := by
  refine w_enterF (by decide +kernel) (Nat.le_of_ble_eq_true rfl) (fun p e s m args below meth c ls C hr hk hn hsz hW hl => ?_)
  have hx := C.1
  have hb := C.2.1
  have hl : lv_has ls 3 [(0, .int i), (1, .int n), (2, .null)] := hl
  refine lv_iload_n hx hb dJ3_checkIndex_8e157_0 rfl (lv_at hl 0 rfl) ?_
  refine lv_if_lt (tgt := 9) hx hb dJ3_checkIndex_8e157_1 (by decide) (fun h => absurd h h0) (fun h => ?_)
  refine lv_iload_n hx hb dJ3_checkIndex_8e157_4 rfl (lv_at hl 0 rfl) ?_
  refine lv_iload_n hx hb dJ3_checkIndex_8e157_5 rfl (lv_at hl 1 rfl) ?_
  refine lv_icmp_lt (tgt := 16) hx hb dJ3_checkIndex_8e157_6 (by decide) (fun h => ?_) (fun h => absurd h1 h)
  refine lv_iload_n hx hb dJ3_checkIndex_8e157_16 rfl (lv_at hl 0 rfl) ?_
  exact w_iret C hsz hr hk hW dJ3_checkIndex_8e157_17 ⟨rfl, rfl⟩
theorem mJ15_checkIndex_7cf53 {l : Launch} {S : Type} {D : va_G} {ww : S → va_W} {ty : List (ClassId × FieldType)} {σ : S} {i n : Int32} (h0 : ¬ i < 0) (h1 : i < n) (sz : Nat) : Met l yJ15_checkIndex_7cf53 (cws yJ15_checkIndex_7cf53 cJ15_checkIndex_7cf53 2 (some .int)) ({ frames := 1, cells := 0, slots := 0, locals := 22 } : Room) (va_Pc [.int i, .int n] (WP D ww ty σ sz)) (va_Qi (fun r τ => r = i ∧ τ = σ) (WB D ww ty σ sz) (va_A (ww σ) sz)) 0 0 (va_A (ww σ) sz) := by
  refine w_enterF (by decide +kernel) (Nat.le_of_ble_eq_true rfl) (fun p e s m args below meth c ls C hr hk hn hsz hW hl => ?_)
  have hx := C.1
  have hb := C.2.1
  have hl : lv_has ls 2 [(0, .int i), (1, .int n)] := hl
  refine lv_iload_n hx hb dJ15_checkIndex_7cf53_0 rfl (lv_at hl 0 rfl) ?_
  refine lv_iload_n hx hb dJ15_checkIndex_7cf53_1 rfl (lv_at hl 1 rfl) ?_
  refine lv_null hx hb dJ15_checkIndex_7cf53_2 ?_
  refine w_calli hW (w_runS C hW (mJ3_checkIndex_8e157 h0 h1 _) ⟨(lwg_at 442 (by decide +kernel) rfl), (lwg_at 81 (by decide +kernel) rfl), (lwg_at 440 (by decide +kernel) rfl)⟩ (lwg_at 441 (by decide +kernel) rfl) (np := 3) (by decide +kernel) ⟨rfl, rfl⟩ ⟨by decide, by decide⟩ rfl hl.1 rfl (Nat.le_of_ble_eq_true rfl) dJ15_checkIndex_7cf53_3 ⟨Nat.zero_le _, Nat.zero_le _⟩) (fun r τ H locs hq hW => ?_)
  exact w_iret C hsz hr hk hW dJ15_checkIndex_7cf53_6 ⟨hq.1, hq.2⟩
theorem x_inH {g : XG} {i : Int32} (hin : vp_in i (nH g)) : vp_in i 10 ∧ 0 < nH g ∧ i.toNatClampNeg < nH g := by
  have h1 : i.toNatClampNeg < nH g := Nat.not_le.mp fun q => hin (Or.inr q)
  have h2 : nH g ≤ 10 := g.2.2.2.2.2.1.2.2.2
  exact ⟨fun q => q.elim (fun z => hin (Or.inl z)) (fun z => by omega), by omega, h1⟩
theorem mJx4a65c_elementData_915e3_H {l : Launch} {g : XG} {σ : XS} {i : Int32} (hin : vp_in i (nH g)) (sz : Nat) : Met l yJx4a65c_elementData_915e3 (cws yJx4a65c_elementData_915e3 cJx4a65c_elementData_915e3 2 (some (.object "java/lang/Object"))) ({ frames := 0, cells := 0, slots := 0, locals := 0 } : Room) (va_Pc [.ref (g.2.1 1), .int i] (WP g.1 (xw g) (xty g) σ sz)) (QcR (fun j : Fin (nH g) => .ref (hA g j)) (fun j τ => j.val = i.toNatClampNeg ∧ τ = σ) (WB g.1 (xw g) (xty g) σ sz) (va_A (xw g σ) sz)) 0 0 (va_A (xw g σ) sz) := by
  refine w_enterF (by decide +kernel) (Nat.le_of_ble_eq_true rfl) (fun p e s m args below meth c ls C hr hk hn hsz hW hl => ?_)
  obtain ⟨hin10, h0, hlt⟩ := x_inH hin
  have hx := C.1
  have hb := C.2.1
  have hl : lv_has ls 2 [(0, .ref (g.2.1 1)), (1, .int i)] := hl
  refine lv_aload_n hx hb dJx4a65c_elementData_915e3_0 rfl (lv_at hl 0 rfl) ?_
  refine xg_Jx4a65c_9_H C hW dJx4a65c_elementData_915e3_1 ?_
  refine lv_iload_n hx hb dJx4a65c_elementData_915e3_4 rfl (lv_at hl 1 rfl) ?_
  refine w_aldq C hW (q0 := 35) (t0 := 2) (xw_E g σ h0) rfl hin10 dJx4a65c_elementData_915e3_5 ?_
  have e : (hs g)[i.toNatClampNeg]? = some ((hs g).get ⟨i.toNatClampNeg, hlt⟩) := List.getElem?_eq_getElem hlt
  try dsimp only
  rw [e]
  exact w_aret (f := fun j : Fin (nH g) => .ref (hA g j)) (r := ⟨i.toNatClampNeg, hlt⟩) C hsz hr (Or.inl ⟨_, rfl⟩) hk hW dJx4a65c_elementData_915e3_6 (Or.inr ⟨_, rfl⟩) ⟨rfl, rfl⟩
theorem mJx4a65c_get_915e3_H {l : Launch} {g : XG} {σ : XS} {i : Int32} (hin : vp_in i (nH g)) (sz : Nat) : Met l yJx4a65c_get_915e3 (cws yJx4a65c_get_915e3 cJx4a65c_get_915e3 2 (some (.object "java/lang/Object"))) ({ frames := 2, cells := 0, slots := 0, locals := 43 } : Room) (va_Pc [.ref (g.2.1 1), .int i] (WP g.1 (xw g) (xty g) σ sz)) (QcR (fun j : Fin (nH g) => .ref (hA g j)) (fun j τ => j.val = i.toNatClampNeg ∧ τ = σ) (WB g.1 (xw g) (xty g) σ sz) (va_A (xw g σ) sz)) 0 0 (va_A (xw g σ) sz) := by
  refine w_enterF (by decide +kernel) (Nat.le_of_ble_eq_true rfl) (fun p e s m args below meth c ls C hr hk hn hsz hW hl => ?_)
  obtain ⟨hin10, h0, hlt⟩ := x_inH hin
  have hn10 : nH g ≤ 10 := g.2.2.2.2.2.1.2.2.2
  have hi0 : ¬ i < 0 := fun q => hin (Or.inl q)
  have hi1 : i < nI (nH g) := by
    obtain ⟨k, hk1, rfl⟩ := vp_in_of hin (by omega)
    exact nI_lt hk1 (by omega)
  have hx := C.1
  have hb := C.2.1
  have hl : lv_has ls 2 [(0, .ref (g.2.1 1)), (1, .int i)] := hl
  refine lv_iload_n hx hb dJx4a65c_get_915e3_0 rfl (lv_at hl 1 rfl) ?_
  refine lv_aload_n hx hb dJx4a65c_get_915e3_1 rfl (lv_at hl 0 rfl) ?_
  refine xg_Jx4a65c_48_H C hW dJx4a65c_get_915e3_2 ?_
  refine w_calli hW (w_runS C hW (mJ15_checkIndex_7cf53 hi0 hi1 _) ⟨(lwg_at 439 (by decide +kernel) rfl), (lwg_at 80 (by decide +kernel) rfl), (lwg_at 437 (by decide +kernel) rfl)⟩ (lwg_at 438 (by decide +kernel) rfl) (np := 2) (by decide +kernel) ⟨rfl, rfl⟩ ⟨by decide, by decide⟩ rfl hl.1 rfl (Nat.le_of_ble_eq_true rfl) dJx4a65c_get_915e3_5 ⟨Nat.zero_le _, Nat.zero_le _⟩) (fun r τ H locs hq hW => ?_)
  obtain ⟨rfl, rfl⟩ := hq
  refine lv_pop hx hb dJx4a65c_get_915e3_8 rfl ?_
  refine lv_aload_n hx hb dJx4a65c_get_915e3_9 rfl (lv_at hl 0 rfl) ?_
  refine lv_iload_n hx hb dJx4a65c_get_915e3_10 rfl (lv_at hl 1 rfl) ?_
  refine w_callg hW (w_runV C hW (mJx4a65c_elementData_915e3_H hin _) ⟨(lwg_at 446 (by decide +kernel) rfl), (lwg_at 69 (by decide +kernel) rfl), (lwg_at 443 (by decide +kernel) rfl)⟩ (lwg_at 444 (by decide +kernel) rfl) (lwg_at 445 (by decide +kernel) rfl) (np := 1) (by decide +kernel) ⟨rfl, rfl⟩ ⟨by decide, by decide⟩ (ci := 0) rfl rfl (q0 := 1) rfl rfl hl.1 rfl (Nat.le_of_ble_eq_true rfl) dJx4a65c_get_915e3_11 ⟨Nat.zero_le _, Nat.zero_le _⟩) (fun j τ H locs hq hW => ?_)
  obtain ⟨hj, rfl⟩ := hq
  exact w_aret (f := fun j : Fin (nH g) => .ref (hA g j)) (r := j) C hsz hr (Or.inl ⟨_, rfl⟩) hk hW dJx4a65c_get_915e3_14 (Or.inr ⟨_, rfl⟩) ⟨hj, rfl⟩
theorem mJx4a65c_size_8abf5_H {l : Launch} {g : XG} {σ : XS} (sz : Nat) : Met l yJx4a65c_size_8abf5 (cws yJx4a65c_size_8abf5 cJx4a65c_size_8abf5 1 (some .int)) ({ frames := 0, cells := 0, slots := 0, locals := 0 } : Room) (va_Pc [.ref (g.2.1 1)] (WP g.1 (xw g) (xty g) σ sz)) (va_Qi (fun r τ => r = nI (nH g) ∧ τ = σ) (WB g.1 (xw g) (xty g) σ sz) (va_A (xw g σ) sz)) 0 0 (va_A (xw g σ) sz) := by
  refine w_enterF (by decide +kernel) (Nat.le_of_ble_eq_true rfl) (fun p e s m args below meth c ls C hr hk hn hsz hW hl => ?_)
  have hx := C.1
  have hb := C.2.1
  have hl : lv_has ls 1 [(0, .ref (g.2.1 1))] := hl
  refine lv_aload_n hx hb dJx4a65c_size_8abf5_0 rfl (lv_at hl 0 rfl) ?_
  refine xg_Jx4a65c_48_H C hW dJx4a65c_size_8abf5_1 ?_
  exact w_iret C hsz hr hk hW dJx4a65c_size_8abf5_4 ⟨rfl, rfl⟩
theorem mJx4a65c_isEmpty_aae02_H {l : Launch} {g : XG} {σ : XS} (sz : Nat) : Met l yJx4a65c_isEmpty_aae02 (cws yJx4a65c_isEmpty_aae02 cJx4a65c_isEmpty_aae02 1 (some .boolean)) ({ frames := 0, cells := 0, slots := 0, locals := 0 } : Room) (va_Pc [.ref (g.2.1 1)] (WP g.1 (xw g) (xty g) σ sz)) (va_Qi (fun r τ => r = (if nI (nH g) = 0 then 1 else 0) ∧ τ = σ) (WB g.1 (xw g) (xty g) σ sz) (va_A (xw g σ) sz)) 0 0 (va_A (xw g σ) sz) := by
  refine w_enterF (by decide +kernel) (Nat.le_of_ble_eq_true rfl) (fun p e s m args below meth c ls C hr hk hn hsz hW hl => ?_)
  have hx := C.1
  have hb := C.2.1
  have hl : lv_has ls 1 [(0, .ref (g.2.1 1))] := hl
  refine lv_aload_n hx hb dJx4a65c_isEmpty_aae02_0 rfl (lv_at hl 0 rfl) ?_
  refine xg_Jx4a65c_48_H C hW dJx4a65c_isEmpty_aae02_1 ?_
  refine lv_if_ne (tgt := 11) hx hb dJx4a65c_isEmpty_aae02_4 (by decide) (fun h => ?_) (fun h => ?_)
  · refine lv_iconst (v := 0) hx hb dJx4a65c_isEmpty_aae02_11 (by decide) ?_
    exact w_zret C hsz hr hk hW dJx4a65c_isEmpty_aae02_12 isB_0 ⟨by rw [if_neg h], rfl⟩
  · refine lv_iconst (v := 1) hx hb dJx4a65c_isEmpty_aae02_7 (by decide) ?_
    refine lv_goto (tgt := 12) hx hb dJx4a65c_isEmpty_aae02_8 (by decide) ?_
    exact w_zret C hsz hr hk hW dJx4a65c_isEmpty_aae02_12 isB_1 ⟨by rw [if_pos h], rfl⟩
theorem x_inV {g : XG} {i : Int32} (hin : vp_in i (nV g)) : vp_in i 10 ∧ 0 < nV g ∧ i.toNatClampNeg < nV g := by
  have h1 : i.toNatClampNeg < nV g := Nat.not_le.mp fun q => hin (Or.inr q)
  have h2 : nV g ≤ 10 := g.2.2.2.2.2.2.2.2.2
  exact ⟨fun q => q.elim (fun z => hin (Or.inl z)) (fun z => by omega), by omega, h1⟩
theorem mJx4a65c_elementData_915e3_V {l : Launch} {g : XG} {σ : XS} {i : Int32} (hin : vp_in i (nV g)) (sz : Nat) : Met l yJx4a65c_elementData_915e3 (cws yJx4a65c_elementData_915e3 cJx4a65c_elementData_915e3 2 (some (.object "java/lang/Object"))) ({ frames := 0, cells := 0, slots := 0, locals := 0 } : Room) (va_Pc [.ref (g.2.1 2), .int i] (WP g.1 (xw g) (xty g) σ sz)) (QcR (fun j : Fin (nV g) => .ref (vA g j)) (fun j τ => j.val = i.toNatClampNeg ∧ τ = σ) (WB g.1 (xw g) (xty g) σ sz) (va_A (xw g σ) sz)) 0 0 (va_A (xw g σ) sz) := by
  refine w_enterF (by decide +kernel) (Nat.le_of_ble_eq_true rfl) (fun p e s m args below meth c ls C hr hk hn hsz hW hl => ?_)
  obtain ⟨hin10, h0, hlt⟩ := x_inV hin
  have hx := C.1
  have hb := C.2.1
  have hl : lv_has ls 2 [(0, .ref (g.2.1 2)), (1, .int i)] := hl
  refine lv_aload_n hx hb dJx4a65c_elementData_915e3_0 rfl (lv_at hl 0 rfl) ?_
  refine xg_Jx4a65c_9_V C hW dJx4a65c_elementData_915e3_1 ?_
  refine lv_iload_n hx hb dJx4a65c_elementData_915e3_4 rfl (lv_at hl 1 rfl) ?_
  obtain ⟨q, he⟩ := xw_F g σ h0
  refine w_aldq C hW (q0 := q) (t0 := 2) he rfl hin10 dJx4a65c_elementData_915e3_5 ?_
  have e : (vs g)[i.toNatClampNeg]? = some ((vs g).get ⟨i.toNatClampNeg, hlt⟩) := List.getElem?_eq_getElem hlt
  try dsimp only
  rw [e]
  exact w_aret (f := fun j : Fin (nV g) => .ref (vA g j)) (r := ⟨i.toNatClampNeg, hlt⟩) C hsz hr (Or.inl ⟨_, rfl⟩) hk hW dJx4a65c_elementData_915e3_6 (Or.inr ⟨_, rfl⟩) ⟨rfl, rfl⟩
theorem mJx4a65c_get_915e3_V {l : Launch} {g : XG} {σ : XS} {i : Int32} (hin : vp_in i (nV g)) (sz : Nat) : Met l yJx4a65c_get_915e3 (cws yJx4a65c_get_915e3 cJx4a65c_get_915e3 2 (some (.object "java/lang/Object"))) ({ frames := 2, cells := 0, slots := 0, locals := 43 } : Room) (va_Pc [.ref (g.2.1 2), .int i] (WP g.1 (xw g) (xty g) σ sz)) (QcR (fun j : Fin (nV g) => .ref (vA g j)) (fun j τ => j.val = i.toNatClampNeg ∧ τ = σ) (WB g.1 (xw g) (xty g) σ sz) (va_A (xw g σ) sz)) 0 0 (va_A (xw g σ) sz) := by
  refine w_enterF (by decide +kernel) (Nat.le_of_ble_eq_true rfl) (fun p e s m args below meth c ls C hr hk hn hsz hW hl => ?_)
  obtain ⟨hin10, h0, hlt⟩ := x_inV hin
  have hn10 : nV g ≤ 10 := g.2.2.2.2.2.2.2.2.2
  have hi0 : ¬ i < 0 := fun q => hin (Or.inl q)
  have hi1 : i < nI (nV g) := by
    obtain ⟨k, hk1, rfl⟩ := vp_in_of hin (by omega)
    exact nI_lt hk1 (by omega)
  have hx := C.1
  have hb := C.2.1
  have hl : lv_has ls 2 [(0, .ref (g.2.1 2)), (1, .int i)] := hl
  refine lv_iload_n hx hb dJx4a65c_get_915e3_0 rfl (lv_at hl 1 rfl) ?_
  refine lv_aload_n hx hb dJx4a65c_get_915e3_1 rfl (lv_at hl 0 rfl) ?_
  refine xg_Jx4a65c_48_V C hW dJx4a65c_get_915e3_2 ?_
  refine w_calli hW (w_runS C hW (mJ15_checkIndex_7cf53 hi0 hi1 _) ⟨(lwg_at 439 (by decide +kernel) rfl), (lwg_at 80 (by decide +kernel) rfl), (lwg_at 437 (by decide +kernel) rfl)⟩ (lwg_at 438 (by decide +kernel) rfl) (np := 2) (by decide +kernel) ⟨rfl, rfl⟩ ⟨by decide, by decide⟩ rfl hl.1 rfl (Nat.le_of_ble_eq_true rfl) dJx4a65c_get_915e3_5 ⟨Nat.zero_le _, Nat.zero_le _⟩) (fun r τ H locs hq hW => ?_)
  obtain ⟨rfl, rfl⟩ := hq
  refine lv_pop hx hb dJx4a65c_get_915e3_8 rfl ?_
  refine lv_aload_n hx hb dJx4a65c_get_915e3_9 rfl (lv_at hl 0 rfl) ?_
  refine lv_iload_n hx hb dJx4a65c_get_915e3_10 rfl (lv_at hl 1 rfl) ?_
  refine w_callg hW (w_runV C hW (mJx4a65c_elementData_915e3_V hin _) ⟨(lwg_at 446 (by decide +kernel) rfl), (lwg_at 69 (by decide +kernel) rfl), (lwg_at 443 (by decide +kernel) rfl)⟩ (lwg_at 444 (by decide +kernel) rfl) (lwg_at 445 (by decide +kernel) rfl) (np := 1) (by decide +kernel) ⟨rfl, rfl⟩ ⟨by decide, by decide⟩ (ci := 0) rfl rfl (q0 := 2) rfl rfl hl.1 rfl (Nat.le_of_ble_eq_true rfl) dJx4a65c_get_915e3_11 ⟨Nat.zero_le _, Nat.zero_le _⟩) (fun j τ H locs hq hW => ?_)
  obtain ⟨hj, rfl⟩ := hq
  exact w_aret (f := fun j : Fin (nV g) => .ref (vA g j)) (r := j) C hsz hr (Or.inl ⟨_, rfl⟩) hk hW dJx4a65c_get_915e3_14 (Or.inr ⟨_, rfl⟩) ⟨hj, rfl⟩
theorem mJx4a65c_size_8abf5_V {l : Launch} {g : XG} {σ : XS} (sz : Nat) : Met l yJx4a65c_size_8abf5 (cws yJx4a65c_size_8abf5 cJx4a65c_size_8abf5 1 (some .int)) ({ frames := 0, cells := 0, slots := 0, locals := 0 } : Room) (va_Pc [.ref (g.2.1 2)] (WP g.1 (xw g) (xty g) σ sz)) (va_Qi (fun r τ => r = nI (nV g) ∧ τ = σ) (WB g.1 (xw g) (xty g) σ sz) (va_A (xw g σ) sz)) 0 0 (va_A (xw g σ) sz) := by
  refine w_enterF (by decide +kernel) (Nat.le_of_ble_eq_true rfl) (fun p e s m args below meth c ls C hr hk hn hsz hW hl => ?_)
  have hx := C.1
  have hb := C.2.1
  have hl : lv_has ls 1 [(0, .ref (g.2.1 2))] := hl
  refine lv_aload_n hx hb dJx4a65c_size_8abf5_0 rfl (lv_at hl 0 rfl) ?_
  refine xg_Jx4a65c_48_V C hW dJx4a65c_size_8abf5_1 ?_
  exact w_iret C hsz hr hk hW dJx4a65c_size_8abf5_4 ⟨rfl, rfl⟩
theorem mJx4a65c_isEmpty_aae02_V {l : Launch} {g : XG} {σ : XS} (sz : Nat) : Met l yJx4a65c_isEmpty_aae02 (cws yJx4a65c_isEmpty_aae02 cJx4a65c_isEmpty_aae02 1 (some .boolean)) ({ frames := 0, cells := 0, slots := 0, locals := 0 } : Room) (va_Pc [.ref (g.2.1 2)] (WP g.1 (xw g) (xty g) σ sz)) (va_Qi (fun r τ => r = (if nI (nV g) = 0 then 1 else 0) ∧ τ = σ) (WB g.1 (xw g) (xty g) σ sz) (va_A (xw g σ) sz)) 0 0 (va_A (xw g σ) sz) := by
  refine w_enterF (by decide +kernel) (Nat.le_of_ble_eq_true rfl) (fun p e s m args below meth c ls C hr hk hn hsz hW hl => ?_)
  have hx := C.1
  have hb := C.2.1
  have hl : lv_has ls 1 [(0, .ref (g.2.1 2))] := hl
  refine lv_aload_n hx hb dJx4a65c_isEmpty_aae02_0 rfl (lv_at hl 0 rfl) ?_
  refine xg_Jx4a65c_48_V C hW dJx4a65c_isEmpty_aae02_1 ?_
  refine lv_if_ne (tgt := 11) hx hb dJx4a65c_isEmpty_aae02_4 (by decide) (fun h => ?_) (fun h => ?_)
  · refine lv_iconst (v := 0) hx hb dJx4a65c_isEmpty_aae02_11 (by decide) ?_
    exact w_zret C hsz hr hk hW dJx4a65c_isEmpty_aae02_12 isB_0 ⟨by rw [if_neg h], rfl⟩
  · refine lv_iconst (v := 1) hx hb dJx4a65c_isEmpty_aae02_7 (by decide) ?_
    refine lv_goto (tgt := 12) hx hb dJx4a65c_isEmpty_aae02_8 (by decide) ?_
    exact w_zret C hsz hr hk hW dJx4a65c_isEmpty_aae02_12 isB_1 ⟨by rw [if_pos h], rfl⟩
section JROWS
variable {p : Program} {l : Launch} {e : Env} {R : Room} {s : State} {m : MethodId} {args : Array Value} {below : List Frame} {meth : Method} {c : Code} {H : Heap} {locs : List Loc} {cells slots : Nat} {Q : State → Prop}
variable {cc : ByteArray} {pc : Nat} {ls : Array Slot} {rest : List Value} {own : String} {nL : Nat}
variable {g : XG} {σ : XS} {A : Nat → Prop}
theorem xsiz_H_X10_81 (C : CallFix p m c cc nL s args lwg RX10) (hW : WI g.1 (xw g) (xty g) A s σ H locs) (hRf : 1 ≤ R.frames) (hRl : 20 ≤ R.locals) (hls : ls.size = nL) (hro : (rest.map fun v => v.category).sum ≤ 8) (hd : decode cc pc = .ok (.invokevirtual 81, 3)) (kk : ∀ (H : Heap) (locs : List Loc), WI g.1 (xw g) (xty g) A s σ H locs → W p l e R s m args below meth c H locs 0 0 Q (F0 m (pc + 3) ls (.int (nI (nH g)) :: rest))) : W p l e R s m args below meth c H locs 0 0 Q (F0 m pc ls (.ref (g.2.1 1) :: rest)) :=
  w_calli hW (w_runV C hW (mJx4a65c_size_8abf5_H _) ⟨(lwg_at 338 (by decide +kernel) rfl), (lwg_at 69 (by decide +kernel) rfl), (lwg_at 335 (by decide +kernel) rfl)⟩ (lwg_at 336 (by decide +kernel) rfl) (lwg_at 337 (by decide +kernel) rfl) (np := 0) (by decide +kernel) ⟨rfl, rfl⟩ ⟨hRf, hRl⟩ (ci := 0) rfl rfl (q0 := 1) rfl rfl hls rfl hro hd ⟨Nat.zero_le _, Nat.zero_le _⟩) (fun r τ H2 locs2 hq hW2 => by obtain ⟨h1, h2⟩ := hq; subst h1; subst h2; exact kk _ _ hW2)
theorem xsiz_V_X10_81 (C : CallFix p m c cc nL s args lwg RX10) (hW : WI g.1 (xw g) (xty g) A s σ H locs) (hRf : 1 ≤ R.frames) (hRl : 20 ≤ R.locals) (hls : ls.size = nL) (hro : (rest.map fun v => v.category).sum ≤ 8) (hd : decode cc pc = .ok (.invokevirtual 81, 3)) (kk : ∀ (H : Heap) (locs : List Loc), WI g.1 (xw g) (xty g) A s σ H locs → W p l e R s m args below meth c H locs 0 0 Q (F0 m (pc + 3) ls (.int (nI (nV g)) :: rest))) : W p l e R s m args below meth c H locs 0 0 Q (F0 m pc ls (.ref (g.2.1 2) :: rest)) :=
  w_calli hW (w_runV C hW (mJx4a65c_size_8abf5_V _) ⟨(lwg_at 338 (by decide +kernel) rfl), (lwg_at 69 (by decide +kernel) rfl), (lwg_at 335 (by decide +kernel) rfl)⟩ (lwg_at 336 (by decide +kernel) rfl) (lwg_at 337 (by decide +kernel) rfl) (np := 0) (by decide +kernel) ⟨rfl, rfl⟩ ⟨hRf, hRl⟩ (ci := 0) rfl rfl (q0 := 2) rfl rfl hls rfl hro hd ⟨Nat.zero_le _, Nat.zero_le _⟩) (fun r τ H2 locs2 hq hW2 => by obtain ⟨h1, h2⟩ := hq; subst h1; subst h2; exact kk _ _ hW2)
theorem xget_H_X10_124 (C : CallFix p m c cc nL s args lwg RX10) (hW : WI g.1 (xw g) (xty g) A s σ H locs) (hRf : 3 ≤ R.frames) (hRl : 64 ≤ R.locals) (hls : ls.size = nL) (hro : (rest.map fun v => v.category).sum ≤ 8) {i : Int32} (hin : vp_in i (nH g)) (hd : decode cc pc = .ok (.invokevirtual 124, 3)) (kk : ∀ (j : Fin (nH g)) (H : Heap) (locs : List Loc), j.val = i.toNatClampNeg → WI g.1 (xw g) (xty g) A s σ H locs → W p l e R s m args below meth c H locs 0 0 Q (F0 m (pc + 3) ls (.ref (hA g j) :: rest))) : W p l e R s m args below meth c H locs 0 0 Q (F0 m pc ls (.int i :: .ref (g.2.1 1) :: rest)) :=
  w_callg hW (w_runV C hW (mJx4a65c_get_915e3_H hin _) ⟨(lwg_at 436 (by decide +kernel) rfl), (lwg_at 69 (by decide +kernel) rfl), (lwg_at 433 (by decide +kernel) rfl)⟩ (lwg_at 434 (by decide +kernel) rfl) (lwg_at 435 (by decide +kernel) rfl) (np := 1) (by decide +kernel) ⟨rfl, rfl⟩ ⟨hRf, hRl⟩ (ci := 0) rfl rfl (q0 := 1) rfl rfl hls rfl hro hd ⟨Nat.zero_le _, Nat.zero_le _⟩) (fun j τ H2 locs2 hq hW2 => by obtain ⟨hj, h2⟩ := hq; subst h2; exact kk j _ _ hj hW2)
theorem xget_V_X10_124 (C : CallFix p m c cc nL s args lwg RX10) (hW : WI g.1 (xw g) (xty g) A s σ H locs) (hRf : 3 ≤ R.frames) (hRl : 64 ≤ R.locals) (hls : ls.size = nL) (hro : (rest.map fun v => v.category).sum ≤ 8) {i : Int32} (hin : vp_in i (nV g)) (hd : decode cc pc = .ok (.invokevirtual 124, 3)) (kk : ∀ (j : Fin (nV g)) (H : Heap) (locs : List Loc), j.val = i.toNatClampNeg → WI g.1 (xw g) (xty g) A s σ H locs → W p l e R s m args below meth c H locs 0 0 Q (F0 m (pc + 3) ls (.ref (vA g j) :: rest))) : W p l e R s m args below meth c H locs 0 0 Q (F0 m pc ls (.int i :: .ref (g.2.1 2) :: rest)) :=
  w_callg hW (w_runV C hW (mJx4a65c_get_915e3_V hin _) ⟨(lwg_at 436 (by decide +kernel) rfl), (lwg_at 69 (by decide +kernel) rfl), (lwg_at 433 (by decide +kernel) rfl)⟩ (lwg_at 434 (by decide +kernel) rfl) (lwg_at 435 (by decide +kernel) rfl) (np := 1) (by decide +kernel) ⟨rfl, rfl⟩ ⟨hRf, hRl⟩ (ci := 0) rfl rfl (q0 := 2) rfl rfl hls rfl hro hd ⟨Nat.zero_le _, Nat.zero_le _⟩) (fun j τ H2 locs2 hq hW2 => by obtain ⟨hj, h2⟩ := hq; subst h2; exact kk j _ _ hj hW2)
theorem xemp_H_X10_194 (C : CallFix p m c cc nL s args lwg RX10) (hW : WI g.1 (xw g) (xty g) A s σ H locs) (hRf : 1 ≤ R.frames) (hRl : 20 ≤ R.locals) (hls : ls.size = nL) (hro : (rest.map fun v => v.category).sum ≤ 8) (hd : decode cc pc = .ok (.invokevirtual 194, 3)) (kk : ∀ (H : Heap) (locs : List Loc), WI g.1 (xw g) (xty g) A s σ H locs → W p l e R s m args below meth c H locs 0 0 Q (F0 m (pc + 3) ls (.int (if nI (nH g) = 0 then 1 else 0) :: rest))) : W p l e R s m args below meth c H locs 0 0 Q (F0 m pc ls (.ref (g.2.1 1) :: rest)) :=
  w_calli hW (w_runV C hW (mJx4a65c_isEmpty_aae02_H _) ⟨(lwg_at 789 (by decide +kernel) rfl), (lwg_at 69 (by decide +kernel) rfl), (lwg_at 786 (by decide +kernel) rfl)⟩ (lwg_at 787 (by decide +kernel) rfl) (lwg_at 788 (by decide +kernel) rfl) (np := 0) (by decide +kernel) ⟨rfl, rfl⟩ ⟨hRf, hRl⟩ (ci := 0) rfl rfl (q0 := 1) rfl rfl hls rfl hro hd ⟨Nat.zero_le _, Nat.zero_le _⟩) (fun r τ H2 locs2 hq hW2 => by obtain ⟨h1, h2⟩ := hq; subst h1; subst h2; exact kk _ _ hW2)
theorem xemp_V_X10_194 (C : CallFix p m c cc nL s args lwg RX10) (hW : WI g.1 (xw g) (xty g) A s σ H locs) (hRf : 1 ≤ R.frames) (hRl : 20 ≤ R.locals) (hls : ls.size = nL) (hro : (rest.map fun v => v.category).sum ≤ 8) (hd : decode cc pc = .ok (.invokevirtual 194, 3)) (kk : ∀ (H : Heap) (locs : List Loc), WI g.1 (xw g) (xty g) A s σ H locs → W p l e R s m args below meth c H locs 0 0 Q (F0 m (pc + 3) ls (.int (if nI (nV g) = 0 then 1 else 0) :: rest))) : W p l e R s m args below meth c H locs 0 0 Q (F0 m pc ls (.ref (g.2.1 2) :: rest)) :=
  w_calli hW (w_runV C hW (mJx4a65c_isEmpty_aae02_V _) ⟨(lwg_at 789 (by decide +kernel) rfl), (lwg_at 69 (by decide +kernel) rfl), (lwg_at 786 (by decide +kernel) rfl)⟩ (lwg_at 787 (by decide +kernel) rfl) (lwg_at 788 (by decide +kernel) rfl) (np := 0) (by decide +kernel) ⟨rfl, rfl⟩ ⟨hRf, hRl⟩ (ci := 0) rfl rfl (q0 := 2) rfl rfl hls rfl hro hd ⟨Nat.zero_le _, Nat.zero_le _⟩) (fun r τ H2 locs2 hq hW2 => by obtain ⟨h1, h2⟩ := hq; subst h1; subst h2; exact kk _ _ hW2)
theorem xsiz_H_X0_42 (C : CallFix p m c cc nL s args lwg RX0) (hW : WI g.1 (xw g) (xty g) A s σ H locs) (hRf : 1 ≤ R.frames) (hRl : 20 ≤ R.locals) (hls : ls.size = nL) (hro : (rest.map fun v => v.category).sum ≤ 8) (hd : decode cc pc = .ok (.invokevirtual 42, 3)) (kk : ∀ (H : Heap) (locs : List Loc), WI g.1 (xw g) (xty g) A s σ H locs → W p l e R s m args below meth c H locs 0 0 Q (F0 m (pc + 3) ls (.int (nI (nH g)) :: rest))) : W p l e R s m args below meth c H locs 0 0 Q (F0 m pc ls (.ref (g.2.1 1) :: rest)) :=
  w_calli hW (w_runV C hW (mJx4a65c_size_8abf5_H _) ⟨(lwg_at 338 (by decide +kernel) rfl), (lwg_at 69 (by decide +kernel) rfl), (lwg_at 795 (by decide +kernel) rfl)⟩ (lwg_at 336 (by decide +kernel) rfl) (lwg_at 337 (by decide +kernel) rfl) (np := 0) (by decide +kernel) ⟨rfl, rfl⟩ ⟨hRf, hRl⟩ (ci := 0) rfl rfl (q0 := 1) rfl rfl hls rfl hro hd ⟨Nat.zero_le _, Nat.zero_le _⟩) (fun r τ H2 locs2 hq hW2 => by obtain ⟨h1, h2⟩ := hq; subst h1; subst h2; exact kk _ _ hW2)
theorem xsiz_H_X6_123 (C : CallFix p m c cc nL s args lwg RX6) (hW : WI g.1 (xw g) (xty g) A s σ H locs) (hRf : 1 ≤ R.frames) (hRl : 20 ≤ R.locals) (hls : ls.size = nL) (hro : (rest.map fun v => v.category).sum ≤ 8) (hd : decode cc pc = .ok (.invokevirtual 123, 3)) (kk : ∀ (H : Heap) (locs : List Loc), WI g.1 (xw g) (xty g) A s σ H locs → W p l e R s m args below meth c H locs 0 0 Q (F0 m (pc + 3) ls (.int (nI (nH g)) :: rest))) : W p l e R s m args below meth c H locs 0 0 Q (F0 m pc ls (.ref (g.2.1 1) :: rest)) :=
  w_calli hW (w_runV C hW (mJx4a65c_size_8abf5_H _) ⟨(lwg_at 338 (by decide +kernel) rfl), (lwg_at 69 (by decide +kernel) rfl), (lwg_at 655 (by decide +kernel) rfl)⟩ (lwg_at 336 (by decide +kernel) rfl) (lwg_at 337 (by decide +kernel) rfl) (np := 0) (by decide +kernel) ⟨rfl, rfl⟩ ⟨hRf, hRl⟩ (ci := 0) rfl rfl (q0 := 1) rfl rfl hls rfl hro hd ⟨Nat.zero_le _, Nat.zero_le _⟩) (fun r τ H2 locs2 hq hW2 => by obtain ⟨h1, h2⟩ := hq; subst h1; subst h2; exact kk _ _ hW2)
theorem xget_H_X6_134 (C : CallFix p m c cc nL s args lwg RX6) (hW : WI g.1 (xw g) (xty g) A s σ H locs) (hRf : 3 ≤ R.frames) (hRl : 64 ≤ R.locals) (hls : ls.size = nL) (hro : (rest.map fun v => v.category).sum ≤ 8) {i : Int32} (hin : vp_in i (nH g)) (hd : decode cc pc = .ok (.invokevirtual 134, 3)) (kk : ∀ (j : Fin (nH g)) (H : Heap) (locs : List Loc), j.val = i.toNatClampNeg → WI g.1 (xw g) (xty g) A s σ H locs → W p l e R s m args below meth c H locs 0 0 Q (F0 m (pc + 3) ls (.ref (hA g j) :: rest))) : W p l e R s m args below meth c H locs 0 0 Q (F0 m pc ls (.int i :: .ref (g.2.1 1) :: rest)) :=
  w_callg hW (w_runV C hW (mJx4a65c_get_915e3_H hin _) ⟨(lwg_at 436 (by decide +kernel) rfl), (lwg_at 69 (by decide +kernel) rfl), (lwg_at 664 (by decide +kernel) rfl)⟩ (lwg_at 434 (by decide +kernel) rfl) (lwg_at 435 (by decide +kernel) rfl) (np := 1) (by decide +kernel) ⟨rfl, rfl⟩ ⟨hRf, hRl⟩ (ci := 0) rfl rfl (q0 := 1) rfl rfl hls rfl hro hd ⟨Nat.zero_le _, Nat.zero_le _⟩) (fun j τ H2 locs2 hq hW2 => by obtain ⟨hj, h2⟩ := hq; subst h2; exact kk j _ _ hj hW2)
theorem xget_H_X8_39 (C : CallFix p m c cc nL s args lwg RX8) (hW : WI g.1 (xw g) (xty g) A s σ H locs) (hRf : 3 ≤ R.frames) (hRl : 64 ≤ R.locals) (hls : ls.size = nL) (hro : (rest.map fun v => v.category).sum ≤ 8) {i : Int32} (hin : vp_in i (nH g)) (hd : decode cc pc = .ok (.invokevirtual 39, 3)) (kk : ∀ (j : Fin (nH g)) (H : Heap) (locs : List Loc), j.val = i.toNatClampNeg → WI g.1 (xw g) (xty g) A s σ H locs → W p l e R s m args below meth c H locs 0 0 Q (F0 m (pc + 3) ls (.ref (hA g j) :: rest))) : W p l e R s m args below meth c H locs 0 0 Q (F0 m pc ls (.int i :: .ref (g.2.1 1) :: rest)) :=
  w_callg hW (w_runV C hW (mJx4a65c_get_915e3_H hin _) ⟨(lwg_at 436 (by decide +kernel) rfl), (lwg_at 69 (by decide +kernel) rfl), (lwg_at 689 (by decide +kernel) rfl)⟩ (lwg_at 434 (by decide +kernel) rfl) (lwg_at 435 (by decide +kernel) rfl) (np := 1) (by decide +kernel) ⟨rfl, rfl⟩ ⟨hRf, hRl⟩ (ci := 0) rfl rfl (q0 := 1) rfl rfl hls rfl hro hd ⟨Nat.zero_le _, Nat.zero_le _⟩) (fun j τ H2 locs2 hq hW2 => by obtain ⟨hj, h2⟩ := hq; subst h2; exact kk j _ _ hj hW2)
theorem xsiz_H_X8_47 (C : CallFix p m c cc nL s args lwg RX8) (hW : WI g.1 (xw g) (xty g) A s σ H locs) (hRf : 1 ≤ R.frames) (hRl : 20 ≤ R.locals) (hls : ls.size = nL) (hro : (rest.map fun v => v.category).sum ≤ 8) (hd : decode cc pc = .ok (.invokevirtual 47, 3)) (kk : ∀ (H : Heap) (locs : List Loc), WI g.1 (xw g) (xty g) A s σ H locs → W p l e R s m args below meth c H locs 0 0 Q (F0 m (pc + 3) ls (.int (nI (nH g)) :: rest))) : W p l e R s m args below meth c H locs 0 0 Q (F0 m pc ls (.ref (g.2.1 1) :: rest)) :=
  w_calli hW (w_runV C hW (mJx4a65c_size_8abf5_H _) ⟨(lwg_at 338 (by decide +kernel) rfl), (lwg_at 69 (by decide +kernel) rfl), (lwg_at 675 (by decide +kernel) rfl)⟩ (lwg_at 336 (by decide +kernel) rfl) (lwg_at 337 (by decide +kernel) rfl) (np := 0) (by decide +kernel) ⟨rfl, rfl⟩ ⟨hRf, hRl⟩ (ci := 0) rfl rfl (q0 := 1) rfl rfl hls rfl hro hd ⟨Nat.zero_le _, Nat.zero_le _⟩) (fun r τ H2 locs2 hq hW2 => by obtain ⟨h1, h2⟩ := hq; subst h1; subst h2; exact kk _ _ hW2)
end JROWS
end

section
-- ===== PART A: goes FIRST, ahead of the names: the tables' words, and 'selects' of the private methods out of them =====
/-- a private method of a class that the tables say can be made, by its rows of tables_1 -/
def lw_okq (q : MethodName × Nat) : Prop := (q.1.cls ≠ "java/lang/invoke/MethodHandle" ∧ q.1.cls ≠ "java/lang/invoke/VarHandle") ∧ Cond.instantiable q.1.cls q.2 ∈ tables_1 ∧ Cond.privateMethod q.1 ∈ tables_1 ∧ Cond.instanceMethod q.1 ∈ tables_1
theorem lw_p0 : lw_okq (⟨"KingTies$World", "living", "()I"⟩, 6) := ⟨⟨by decide +kernel, by decide +kernel⟩, List.mem_of_getElem? (i := 63) (by decide +kernel), List.mem_of_getElem? (i := 195) (by decide +kernel), List.mem_of_getElem? (i := 196) (by decide +kernel)⟩
theorem lw_p1 : lw_okq (⟨"KingTies$World", "rulers", "(Z)I"⟩, 6) := ⟨⟨by decide +kernel, by decide +kernel⟩, List.mem_of_getElem? (i := 63) (by decide +kernel), List.mem_of_getElem? (i := 208) (by decide +kernel), List.mem_of_getElem? (i := 209) (by decide +kernel)⟩
theorem lw_p2 : lw_okq (⟨"KingTies", "digestedLand", "(JI)J"⟩, 3) := ⟨⟨by decide +kernel, by decide +kernel⟩, List.mem_of_getElem? (i := 18) (by decide +kernel), List.mem_of_getElem? (i := 233) (by decide +kernel), List.mem_of_getElem? (i := 234) (by decide +kernel)⟩
theorem lw_p3 : lw_okq (⟨"KingTies$World", "regentOf", "(I)I"⟩, 6) := ⟨⟨by decide +kernel, by decide +kernel⟩, List.mem_of_getElem? (i := 63) (by decide +kernel), List.mem_of_getElem? (i := 241) (by decide +kernel), List.mem_of_getElem? (i := 242) (by decide +kernel)⟩
theorem lw_p4 : lw_okq (⟨"KingTies$World", "nearestGrown", "(I)I"⟩, 6) := ⟨⟨by decide +kernel, by decide +kernel⟩, List.mem_of_getElem? (i := 63) (by decide +kernel), List.mem_of_getElem? (i := 245) (by decide +kernel), List.mem_of_getElem? (i := 246) (by decide +kernel)⟩
theorem lw_p5 : lw_okq (⟨"KingTies$World", "eldestOfKin", "(I)I"⟩, 6) := ⟨⟨by decide +kernel, by decide +kernel⟩, List.mem_of_getElem? (i := 63) (by decide +kernel), List.mem_of_getElem? (i := 262) (by decide +kernel), List.mem_of_getElem? (i := 263) (by decide +kernel)⟩
theorem lw_p6 : lw_okq (⟨"java/lang/Throwable", "fillInStackTrace", "(I)Ljava/lang/Throwable;"⟩, 6) := ⟨⟨by decide +kernel, by decide +kernel⟩, List.mem_of_getElem? (i := 332) (by decide +kernel), List.mem_of_getElem? (i := 330) (by decide +kernel), List.mem_of_getElem? (i := 331) (by decide +kernel)⟩
theorem lw_p7 : lw_okq (⟨"KingTies$Kin", "stepsThroughParents", "(III)I"⟩, 6) := ⟨⟨by decide +kernel, by decide +kernel⟩, List.mem_of_getElem? (i := 26) (by decide +kernel), List.mem_of_getElem? (i := 387) (by decide +kernel), List.mem_of_getElem? (i := 388) (by decide +kernel)⟩
theorem lw_p8 : lw_okq (⟨"KingTies", "needPerson", "(I)V"⟩, 3) := ⟨⟨by decide +kernel, by decide +kernel⟩, List.mem_of_getElem? (i := 18) (by decide +kernel), List.mem_of_getElem? (i := 403) (by decide +kernel), List.mem_of_getElem? (i := 404) (by decide +kernel)⟩
theorem lw_p9 : lw_okq (⟨"KingTies", "needLand", "(I)V"⟩, 3) := ⟨⟨by decide +kernel, by decide +kernel⟩, List.mem_of_getElem? (i := 18) (by decide +kernel), List.mem_of_getElem? (i := 464) (by decide +kernel), List.mem_of_getElem? (i := 465) (by decide +kernel)⟩
theorem lw_p10 : lw_okq (⟨"KingTies$World", "isFree", "(I)Z"⟩, 6) := ⟨⟨by decide +kernel, by decide +kernel⟩, List.mem_of_getElem? (i := 63) (by decide +kernel), List.mem_of_getElem? (i := 484) (by decide +kernel), List.mem_of_getElem? (i := 485) (by decide +kernel)⟩
theorem lw_p11 : lw_okq (⟨"KingTiesModel", "fail", "(I)I"⟩, 10) := ⟨⟨by decide +kernel, by decide +kernel⟩, List.mem_of_getElem? (i := 621) (by decide +kernel), List.mem_of_getElem? (i := 669) (by decide +kernel), List.mem_of_getElem? (i := 670) (by decide +kernel)⟩
theorem lw_p12 : lw_okq (⟨"KingTiesModel", "person", "(IIII)I"⟩, 10) := ⟨⟨by decide +kernel, by decide +kernel⟩, List.mem_of_getElem? (i := 621) (by decide +kernel), List.mem_of_getElem? (i := 673) (by decide +kernel), List.mem_of_getElem? (i := 674) (by decide +kernel)⟩
theorem lw_p13 : lw_okq (⟨"KingTiesModel", "isPerson", "(I)Z"⟩, 10) := ⟨⟨by decide +kernel, by decide +kernel⟩, List.mem_of_getElem? (i := 621) (by decide +kernel), List.mem_of_getElem? (i := 682) (by decide +kernel), List.mem_of_getElem? (i := 683) (by decide +kernel)⟩
theorem lw_p14 : lw_okq (⟨"KingTiesModel", "pe", "(II)I"⟩, 10) := ⟨⟨by decide +kernel, by decide +kernel⟩, List.mem_of_getElem? (i := 621) (by decide +kernel), List.mem_of_getElem? (i := 686) (by decide +kernel), List.mem_of_getElem? (i := 687) (by decide +kernel)⟩
theorem lw_p15 : lw_okq (⟨"KingTiesModel", "lives", "(I)Z"⟩, 10) := ⟨⟨by decide +kernel, by decide +kernel⟩, List.mem_of_getElem? (i := 621) (by decide +kernel), List.mem_of_getElem? (i := 690) (by decide +kernel), List.mem_of_getElem? (i := 691) (by decide +kernel)⟩
def lw_privs_1 : List (MethodName × Nat) := [(⟨"KingTies$World", "living", "()I"⟩, 6), (⟨"KingTies$World", "rulers", "(Z)I"⟩, 6), (⟨"KingTies", "digestedLand", "(JI)J"⟩, 3), (⟨"KingTies$World", "regentOf", "(I)I"⟩, 6), (⟨"KingTies$World", "nearestGrown", "(I)I"⟩, 6), (⟨"KingTies$World", "eldestOfKin", "(I)I"⟩, 6), (⟨"java/lang/Throwable", "fillInStackTrace", "(I)Ljava/lang/Throwable;"⟩, 6), (⟨"KingTies$Kin", "stepsThroughParents", "(III)I"⟩, 6), (⟨"KingTies", "needPerson", "(I)V"⟩, 3), (⟨"KingTies", "needLand", "(I)V"⟩, 3), (⟨"KingTies$World", "isFree", "(I)Z"⟩, 6), (⟨"KingTiesModel", "fail", "(I)I"⟩, 10), (⟨"KingTiesModel", "person", "(IIII)I"⟩, 10), (⟨"KingTiesModel", "isPerson", "(I)Z"⟩, 10), (⟨"KingTiesModel", "pe", "(II)I"⟩, 10), (⟨"KingTiesModel", "lives", "(I)Z"⟩, 10)]
theorem lw_r1 : ∀ q ∈ lw_privs_1, lw_okq q := List.forall_mem_cons.mpr ⟨lw_p0, List.forall_mem_cons.mpr ⟨lw_p1, List.forall_mem_cons.mpr ⟨lw_p2, List.forall_mem_cons.mpr ⟨lw_p3, List.forall_mem_cons.mpr ⟨lw_p4, List.forall_mem_cons.mpr ⟨lw_p5, List.forall_mem_cons.mpr ⟨lw_p6, List.forall_mem_cons.mpr ⟨lw_p7, List.forall_mem_cons.mpr ⟨lw_p8, List.forall_mem_cons.mpr ⟨lw_p9, List.forall_mem_cons.mpr ⟨lw_p10, List.forall_mem_cons.mpr ⟨lw_p11, List.forall_mem_cons.mpr ⟨lw_p12, List.forall_mem_cons.mpr ⟨lw_p13, List.forall_mem_cons.mpr ⟨lw_p14, List.forall_mem_cons.mpr ⟨lw_p15, fun _ h => absurd h List.not_mem_nil⟩⟩⟩⟩⟩⟩⟩⟩⟩⟩⟩⟩⟩⟩⟩⟩
theorem lw_p16 : lw_okq (⟨"KingTiesModel", "rule", "(II)V"⟩, 10) := ⟨⟨by decide +kernel, by decide +kernel⟩, List.mem_of_getElem? (i := 621) (by decide +kernel), List.mem_of_getElem? (i := 698) (by decide +kernel), List.mem_of_getElem? (i := 699) (by decide +kernel)⟩
theorem lw_p17 : lw_okq (⟨"KingTiesModel", "isLand", "(I)Z"⟩, 10) := ⟨⟨by decide +kernel, by decide +kernel⟩, List.mem_of_getElem? (i := 621) (by decide +kernel), List.mem_of_getElem? (i := 706) (by decide +kernel), List.mem_of_getElem? (i := 707) (by decide +kernel)⟩
theorem lw_p18 : lw_okq (⟨"KingTiesModel", "la", "(II)I"⟩, 10) := ⟨⟨by decide +kernel, by decide +kernel⟩, List.mem_of_getElem? (i := 621) (by decide +kernel), List.mem_of_getElem? (i := 710) (by decide +kernel), List.mem_of_getElem? (i := 711) (by decide +kernel)⟩
theorem lw_p19 : lw_okq (⟨"KingTiesModel", "canMarry", "(II)Z"⟩, 10) := ⟨⟨by decide +kernel, by decide +kernel⟩, List.mem_of_getElem? (i := 621) (by decide +kernel), List.mem_of_getElem? (i := 718) (by decide +kernel), List.mem_of_getElem? (i := 719) (by decide +kernel)⟩
theorem lw_p20 : lw_okq (⟨"KingTiesModel", "isFree", "(I)Z"⟩, 10) := ⟨⟨by decide +kernel, by decide +kernel⟩, List.mem_of_getElem? (i := 621) (by decide +kernel), List.mem_of_getElem? (i := 722) (by decide +kernel), List.mem_of_getElem? (i := 723) (by decide +kernel)⟩
theorem lw_p21 : lw_okq (⟨"KingTiesModel", "age", "(I)I"⟩, 10) := ⟨⟨by decide +kernel, by decide +kernel⟩, List.mem_of_getElem? (i := 621) (by decide +kernel), List.mem_of_getElem? (i := 726) (by decide +kernel), List.mem_of_getElem? (i := 727) (by decide +kernel)⟩
theorem lw_p22 : lw_okq (⟨"KingTiesModel", "steps", "(II)I"⟩, 10) := ⟨⟨by decide +kernel, by decide +kernel⟩, List.mem_of_getElem? (i := 621) (by decide +kernel), List.mem_of_getElem? (i := 730) (by decide +kernel), List.mem_of_getElem? (i := 731) (by decide +kernel)⟩
theorem lw_p23 : lw_okq (⟨"KingTiesModel", "climb", "(I[I)V"⟩, 10) := ⟨⟨by decide +kernel, by decide +kernel⟩, List.mem_of_getElem? (i := 621) (by decide +kernel), List.mem_of_getElem? (i := 734) (by decide +kernel), List.mem_of_getElem? (i := 735) (by decide +kernel)⟩
theorem lw_p24 : lw_okq (⟨"KingTiesModel", "set", "(III)V"⟩, 10) := ⟨⟨by decide +kernel, by decide +kernel⟩, List.mem_of_getElem? (i := 621) (by decide +kernel), List.mem_of_getElem? (i := 739) (by decide +kernel), List.mem_of_getElem? (i := 740) (by decide +kernel)⟩
theorem lw_p25 : lw_okq (⟨"KingTiesModel", "worthOf", "(I)I"⟩, 10) := ⟨⟨by decide +kernel, by decide +kernel⟩, List.mem_of_getElem? (i := 621) (by decide +kernel), List.mem_of_getElem? (i := 743) (by decide +kernel), List.mem_of_getElem? (i := 744) (by decide +kernel)⟩
theorem lw_p26 : lw_okq (⟨"KingTiesModel", "part", "(I)V"⟩, 10) := ⟨⟨by decide +kernel, by decide +kernel⟩, List.mem_of_getElem? (i := 621) (by decide +kernel), List.mem_of_getElem? (i := 751) (by decide +kernel), List.mem_of_getElem? (i := 752) (by decide +kernel)⟩
theorem lw_p27 : lw_okq (⟨"KingTiesModel", "dies", "(I)I"⟩, 10) := ⟨⟨by decide +kernel, by decide +kernel⟩, List.mem_of_getElem? (i := 621) (by decide +kernel), List.mem_of_getElem? (i := 759) (by decide +kernel), List.mem_of_getElem? (i := 760) (by decide +kernel)⟩
theorem lw_p28 : lw_okq (⟨"KingTiesModel", "heir", "(II)I"⟩, 10) := ⟨⟨by decide +kernel, by decide +kernel⟩, List.mem_of_getElem? (i := 621) (by decide +kernel), List.mem_of_getElem? (i := 763) (by decide +kernel), List.mem_of_getElem? (i := 764) (by decide +kernel)⟩
theorem lw_p29 : lw_okq (⟨"KingTiesModel", "oldest", "(I)I"⟩, 10) := ⟨⟨by decide +kernel, by decide +kernel⟩, List.mem_of_getElem? (i := 621) (by decide +kernel), List.mem_of_getElem? (i := 767) (by decide +kernel), List.mem_of_getElem? (i := 768) (by decide +kernel)⟩
theorem lw_p30 : lw_okq (⟨"KingTiesModel", "isBefore", "(II)Z"⟩, 10) := ⟨⟨by decide +kernel, by decide +kernel⟩, List.mem_of_getElem? (i := 621) (by decide +kernel), List.mem_of_getElem? (i := 771) (by decide +kernel), List.mem_of_getElem? (i := 772) (by decide +kernel)⟩
theorem lw_p31 : lw_okq (⟨"KingTiesModel", "first", "(III)I"⟩, 10) := ⟨⟨by decide +kernel, by decide +kernel⟩, List.mem_of_getElem? (i := 621) (by decide +kernel), List.mem_of_getElem? (i := 775) (by decide +kernel), List.mem_of_getElem? (i := 776) (by decide +kernel)⟩
def lw_privs_2 : List (MethodName × Nat) := [(⟨"KingTiesModel", "rule", "(II)V"⟩, 10), (⟨"KingTiesModel", "isLand", "(I)Z"⟩, 10), (⟨"KingTiesModel", "la", "(II)I"⟩, 10), (⟨"KingTiesModel", "canMarry", "(II)Z"⟩, 10), (⟨"KingTiesModel", "isFree", "(I)Z"⟩, 10), (⟨"KingTiesModel", "age", "(I)I"⟩, 10), (⟨"KingTiesModel", "steps", "(II)I"⟩, 10), (⟨"KingTiesModel", "climb", "(I[I)V"⟩, 10), (⟨"KingTiesModel", "set", "(III)V"⟩, 10), (⟨"KingTiesModel", "worthOf", "(I)I"⟩, 10), (⟨"KingTiesModel", "part", "(I)V"⟩, 10), (⟨"KingTiesModel", "dies", "(I)I"⟩, 10), (⟨"KingTiesModel", "heir", "(II)I"⟩, 10), (⟨"KingTiesModel", "oldest", "(I)I"⟩, 10), (⟨"KingTiesModel", "isBefore", "(II)Z"⟩, 10), (⟨"KingTiesModel", "first", "(III)I"⟩, 10)]
theorem lw_r2 : ∀ q ∈ lw_privs_2, lw_okq q := List.forall_mem_cons.mpr ⟨lw_p16, List.forall_mem_cons.mpr ⟨lw_p17, List.forall_mem_cons.mpr ⟨lw_p18, List.forall_mem_cons.mpr ⟨lw_p19, List.forall_mem_cons.mpr ⟨lw_p20, List.forall_mem_cons.mpr ⟨lw_p21, List.forall_mem_cons.mpr ⟨lw_p22, List.forall_mem_cons.mpr ⟨lw_p23, List.forall_mem_cons.mpr ⟨lw_p24, List.forall_mem_cons.mpr ⟨lw_p25, List.forall_mem_cons.mpr ⟨lw_p26, List.forall_mem_cons.mpr ⟨lw_p27, List.forall_mem_cons.mpr ⟨lw_p28, List.forall_mem_cons.mpr ⟨lw_p29, List.forall_mem_cons.mpr ⟨lw_p30, List.forall_mem_cons.mpr ⟨lw_p31, fun _ h => absurd h List.not_mem_nil⟩⟩⟩⟩⟩⟩⟩⟩⟩⟩⟩⟩⟩⟩⟩⟩
theorem lw_p32 : lw_okq (⟨"KingTiesModel", "nextChild", "(III)I"⟩, 10) := ⟨⟨by decide +kernel, by decide +kernel⟩, List.mem_of_getElem? (i := 621) (by decide +kernel), List.mem_of_getElem? (i := 779) (by decide +kernel), List.mem_of_getElem? (i := 780) (by decide +kernel)⟩
theorem lw_p33 : lw_okq (⟨"KingTiesModel", "isChild", "(II)Z"⟩, 10) := ⟨⟨by decide +kernel, by decide +kernel⟩, List.mem_of_getElem? (i := 621) (by decide +kernel), List.mem_of_getElem? (i := 783) (by decide +kernel), List.mem_of_getElem? (i := 784) (by decide +kernel)⟩
theorem lw_p34 : lw_okq (⟨"KingTiesModel", "isAhead", "(III)Z"⟩, 10) := ⟨⟨by decide +kernel, by decide +kernel⟩, List.mem_of_getElem? (i := 621) (by decide +kernel), List.mem_of_getElem? (i := 787) (by decide +kernel), List.mem_of_getElem? (i := 788) (by decide +kernel)⟩
theorem lw_p35 : lw_okq (⟨"KingTiesModel", "personTold", "(II)I"⟩, 10) := ⟨⟨by decide +kernel, by decide +kernel⟩, List.mem_of_getElem? (i := 621) (by decide +kernel), List.mem_of_getElem? (i := 795) (by decide +kernel), List.mem_of_getElem? (i := 796) (by decide +kernel)⟩
theorem lw_p36 : lw_okq (⟨"KingTiesModel", "landTold", "(II)I"⟩, 10) := ⟨⟨by decide +kernel, by decide +kernel⟩, List.mem_of_getElem? (i := 621) (by decide +kernel), List.mem_of_getElem? (i := 803) (by decide +kernel), List.mem_of_getElem? (i := 804) (by decide +kernel)⟩
theorem lw_p37 : lw_okq (⟨"KingTiesModel", "regent", "(I)I"⟩, 10) := ⟨⟨by decide +kernel, by decide +kernel⟩, List.mem_of_getElem? (i := 621) (by decide +kernel), List.mem_of_getElem? (i := 807) (by decide +kernel), List.mem_of_getElem? (i := 808) (by decide +kernel)⟩
theorem lw_p38 : lw_okq (⟨"KingTiesModel", "kept", "(I)I"⟩, 10) := ⟨⟨by decide +kernel, by decide +kernel⟩, List.mem_of_getElem? (i := 621) (by decide +kernel), List.mem_of_getElem? (i := 815) (by decide +kernel), List.mem_of_getElem? (i := 816) (by decide +kernel)⟩
theorem lw_p39 : lw_okq (⟨"KingTiesModel", "counted", "(I)I"⟩, 10) := ⟨⟨by decide +kernel, by decide +kernel⟩, List.mem_of_getElem? (i := 621) (by decide +kernel), List.mem_of_getElem? (i := 827) (by decide +kernel), List.mem_of_getElem? (i := 828) (by decide +kernel)⟩
theorem lw_p40 : lw_okq (⟨"KingTiesModel", "rulesNow", "(I)Z"⟩, 10) := ⟨⟨by decide +kernel, by decide +kernel⟩, List.mem_of_getElem? (i := 621) (by decide +kernel), List.mem_of_getElem? (i := 831) (by decide +kernel), List.mem_of_getElem? (i := 832) (by decide +kernel)⟩
theorem lw_p41 : lw_okq (⟨"KingTiesModel", "yearsOn", "(I)I"⟩, 10) := ⟨⟨by decide +kernel, by decide +kernel⟩, List.mem_of_getElem? (i := 621) (by decide +kernel), List.mem_of_getElem? (i := 839) (by decide +kernel), List.mem_of_getElem? (i := 840) (by decide +kernel)⟩
theorem lw_p42 : lw_okq (⟨"KingTiesModel", "yearOn", "()I"⟩, 10) := ⟨⟨by decide +kernel, by decide +kernel⟩, List.mem_of_getElem? (i := 621) (by decide +kernel), List.mem_of_getElem? (i := 843) (by decide +kernel), List.mem_of_getElem? (i := 844) (by decide +kernel)⟩
theorem lw_p43 : lw_okq (⟨"KingTiesModel", "kept", "()[[I"⟩, 10) := ⟨⟨by decide +kernel, by decide +kernel⟩, List.mem_of_getElem? (i := 621) (by decide +kernel), List.mem_of_getElem? (i := 851) (by decide +kernel), List.mem_of_getElem? (i := 852) (by decide +kernel)⟩
theorem lw_p44 : lw_okq (⟨"KingTiesModel", "bringBack", "([[I)V"⟩, 10) := ⟨⟨by decide +kernel, by decide +kernel⟩, List.mem_of_getElem? (i := 621) (by decide +kernel), List.mem_of_getElem? (i := 862) (by decide +kernel), List.mem_of_getElem? (i := 863) (by decide +kernel)⟩
def lw_privs_3 : List (MethodName × Nat) := [(⟨"KingTiesModel", "nextChild", "(III)I"⟩, 10), (⟨"KingTiesModel", "isChild", "(II)Z"⟩, 10), (⟨"KingTiesModel", "isAhead", "(III)Z"⟩, 10), (⟨"KingTiesModel", "personTold", "(II)I"⟩, 10), (⟨"KingTiesModel", "landTold", "(II)I"⟩, 10), (⟨"KingTiesModel", "regent", "(I)I"⟩, 10), (⟨"KingTiesModel", "kept", "(I)I"⟩, 10), (⟨"KingTiesModel", "counted", "(I)I"⟩, 10), (⟨"KingTiesModel", "rulesNow", "(I)Z"⟩, 10), (⟨"KingTiesModel", "yearsOn", "(I)I"⟩, 10), (⟨"KingTiesModel", "yearOn", "()I"⟩, 10), (⟨"KingTiesModel", "kept", "()[[I"⟩, 10), (⟨"KingTiesModel", "bringBack", "([[I)V"⟩, 10)]
theorem lw_r3 : ∀ q ∈ lw_privs_3, lw_okq q := List.forall_mem_cons.mpr ⟨lw_p32, List.forall_mem_cons.mpr ⟨lw_p33, List.forall_mem_cons.mpr ⟨lw_p34, List.forall_mem_cons.mpr ⟨lw_p35, List.forall_mem_cons.mpr ⟨lw_p36, List.forall_mem_cons.mpr ⟨lw_p37, List.forall_mem_cons.mpr ⟨lw_p38, List.forall_mem_cons.mpr ⟨lw_p39, List.forall_mem_cons.mpr ⟨lw_p40, List.forall_mem_cons.mpr ⟨lw_p41, List.forall_mem_cons.mpr ⟨lw_p42, List.forall_mem_cons.mpr ⟨lw_p43, List.forall_mem_cons.mpr ⟨lw_p44, fun _ h => absurd h List.not_mem_nil⟩⟩⟩⟩⟩⟩⟩⟩⟩⟩⟩⟩⟩
def lw_privs : List (MethodName × Nat) := lw_privs_1 ++ (lw_privs_2 ++ (lw_privs_3))
def lw_tbl : List Cond := k2_sels lw_privs ++ tables_1
theorem lw_privs_ok : ∀ q ∈ lw_privs, lw_okq q := by
  show ∀ q ∈ lw_privs_1 ++ (lw_privs_2 ++ (lw_privs_3)), lw_okq q
  exact List.forall_mem_append.mpr ⟨lw_r1, List.forall_mem_append.mpr ⟨lw_r2, lw_r3⟩⟩
/-- the streams that the claim lets the run draw from -/
abbrev lw_cs : List Choice := [Jvm.Choice.named "NaN.bits"]
theorem lw_bits : nanBits ∈ lw_cs := by first | decide | exact List.mem_cons_self | simp [lw_cs, nanBits]
end
section
/-! ===== BEGIN words of one list among another's, by their places ===== -/
theorem goodIn_r {big : List Cond} (ws : List Cond) (ps : List Nat) (hp : ws = ps.filterMap (fun i => big[i]?)) (h : ws.all goodWord = true) : GoodIn big ws := by
  intro w hw
  have h1 := List.all_eq_true.mp h w hw
  rw [hp] at hw
  obtain ⟨i, -, hi⟩ := List.mem_filterMap.mp hw
  have hm : w ∈ big := by first | exact List.mem_of_getElem? hi | exact List.getElem?_mem hi
  exact ⟨hm, good_of_word h1⟩
theorem goodIn_app {big a b : List Cond} (ha : GoodIn big a) (hb : GoodIn big b) : GoodIn big (a ++ b) := fun w h => (List.mem_append.mp h).elim (ha w) (hb w)
theorem goodIn_ca {big a b : List Cond} {c : Cond} (ha : GoodIn big (c :: a)) (hb : GoodIn big b) : GoodIn big (c :: (a ++ b)) := fun w h => (List.mem_cons.mp h).elim (fun e => ha w (List.mem_cons.mpr (Or.inl e))) (fun h => (List.mem_append.mp h).elim (fun h => ha w (List.mem_cons.mpr (Or.inr h))) (hb w))
theorem goodIn_sub {big ws : List Cond} (hm : ∀ w ∈ ws, w ∈ big) (h : ws.all goodWord = true) : GoodIn big ws := fun w hw => ⟨hm w hw, good_of_word (List.all_eq_true.mp h w hw)⟩
/-! ===== END ===== -/

/-- what the tables say of arrays over arrays of t -/
def va_AOA (t : FieldType) (U : State) : Prop := (Cond.arrayOver (.array t)).before #[] U = true
theorem va_AOA.use {t : FieldType} {A : Array Value} {U : State} (h : va_AOA t U) : (Cond.arrayOver (.array t)).before A U = true := h
/-! ===== BEGIN new T[n][m]: the outer array a place, the inner ones among the pooled ===== -/
/-- f, but v at every address of l -/
def vr_up {α : Type} (f : Nat → α) (l : List Nat) (v : α) : Nat → α := fun a => if a ∈ l then v else f a
theorem vr_up_in {α : Type} {f : Nat → α} {l : List Nat} {v : α} {a : Nat} (h : a ∈ l) : vr_up f l v a = v := if_pos h
theorem vr_up_ne {α : Type} {f : Nat → α} {l : List Nat} {v : α} {a : Nat} (h : a ∉ l) : vr_up f l v a = f a := if_neg h
theorem vr_rows {L l : List Nat} {f : Nat → va_E} {e : va_E} (h : ∀ a, a ∈ l → a ∉ L) : va_pl L f ++ l.map (fun a => (a, e)) = va_pl (L ++ l) (vr_up f l e) := by
  unfold va_pl
  rw [List.map_append]
  congr 1
  · apply List.map_congr_left
    intro a ha
    rw [vr_up_ne (fun q => h a q ha)]
  · apply List.map_congr_left
    intro a ha
    rw [vr_up_in ha]
theorem vr_lay {X rows : va_W} {x : Nat × va_E} {pl : va_W} {D : va_G} {cl : List vw_C} {H : Heap} (hP : va_P D cl (((X ++ pl) ++ [x]) ++ rows) H) : va_P D cl ((X ++ [x]) ++ (pl ++ rows)) H := by
  rw [List.append_assoc (X ++ pl)] at hP
  have h := va_P.swap hP
  rw [← List.append_assoc X] at h
  have h2 := va_P.swap h
  rw [List.append_assoc (X ++ [x])] at h2
  exact h2
theorem vr_layD {X rows : va_W} {x : Nat × va_E} {pl : va_W} {A : Nat → Prop} (hD : va_D A (((X ++ pl) ++ [x]) ++ rows)) : va_D A ((X ++ [x]) ++ (pl ++ rows)) := by
  rw [List.append_assoc (X ++ pl)] at hD
  have h := va_D.swap hD
  rw [← List.append_assoc X] at h
  have h2 := va_D.swap h
  rw [List.append_assoc (X ++ [x])] at h2
  exact h2
theorem vr_outer (c : ClassId) (N h0 : Nat) : ∀ i : Nat, Jvm.Free.Multi.outerC c N h0 i = arrV c N (fun j => va_rf (if j < i then some (h0 + 1 + j) else none))
  | 0 => by
    show ({ cls := c, slots := Array.replicate N .null, vm := .none } : Cell) = _
    rw [arrV_new]
    refine congrArg (arrV c N) (funext fun j => ?_)
    simp [va_rf]
  | i + 1 => by
    show (Jvm.Free.Multi.outerC c N h0 i).setSlot i (.ref (h0 + 1 + i)) = _
    rw [vr_outer c N h0 i, arrV_store]
    refine congrArg (arrV c N) (funext fun j => ?_)
    by_cases e : j = i
    · subst e
      simp [updV, va_rf]
    · by_cases h : j < i
      · simp [updV, e, h, Nat.lt_succ_of_lt h]
      · simp [updV, e, h, show ¬ j < i + 1 by omega]
section VGM
variable {p : Program} {l : Launch} {e : Env} {R : Room} {s : State} {m : MethodId} {args : Array Value} {below : List Frame} {meth : Method} {c : Code} {H : Heap} {locs : List Loc} {cells slots : Nat} {Q : State → Prop}
variable {cc : ByteArray} {pc : Nat} {ls : Array Slot} {rest : List Value} {D : va_G} {cl : List vw_C} {A : Nat → Prop} {a : Nat} {tys : List (ClassId × FieldType)} {ws : va_W} {H0 : Heap}
theorem va_mna {X : va_W} {L : List Nat} {f : Nat → va_E} {cc : ByteArray} (hexec : p.tables.exec = Jvm.exec) (hb : c.code = cc) {own : String} {index : Nat} {ty : FieldType} {cy : ClassId} (hown : s.vm.findClass own = some m.cls) (hclink : (Cond.classLink own index ("[" ++ (FieldType.array ty).toString)).before args s = true) (hover : va_AOA ty s) (harr : (Cond.arrayClass ty).before args s = true) (hcy : s.vm.findClass (FieldType.array ty).toString = some cy)
    (hK : va_K D cl tys s) (hP : va_P D cl (X ++ va_pl L f) H) (hD : va_D A (X ++ va_pl L f)) (hS : va_S A H0 H locs) (hA : ∀ q, H0.size ≤ q → A q) {n k : Int32} {N' K' : Nat} {z : vp_A} (hn : ¬ n < 0) (hk : ¬ k < 0) (hN : n.toNatClampNeg = N') (hM : k.toNatClampNeg = K')
    (hb1 : N' * 4 ≤ 536870912) (hb2 : K' * componentBytes ty ≤ 536870912) (hb3 : K' ≤ 536870912) (hdf : fits ty (defaultValue ty) = true) (hdd : (defaultValue ty).isDefault = true) (hcells : cells + (1 + N') ≤ R.cells) (hslots : slots + (N' + N' * K') ≤ R.slots) (hz : ∀ c : ClassId, Jvm.Free.Multi.innerC c K' (defaultValue ty) = vp_cell c z) (hdg : decode cc pc = .ok (.multianewarray index 2, 4))
    (kk : ∀ (q : Nat) (r : Nat → Nat) (cA : ClassId) (H1 : Heap), (∀ i j : Nat, i < N' → j < N' → r i = r j → i = j) → (∀ i : Nat, i < N' → r i ∉ L) → va_K D cl (tys ++ [(cA, .array ty)]) s →
      va_P D cl ((X ++ [(q, .inl (cA, N', .inr (.inr (.inr (.inr (fun i => if i < N' then some (r i) else none))))))]) ++ va_pl (L ++ (List.range N').map r) (vr_up f ((List.range N').map r) (.inl (cy, z)))) H1 → va_D A ((X ++ [(q, .inl (cA, N', .inr (.inr (.inr (.inr (fun i => if i < N' then some (r i) else none))))))]) ++ va_pl (L ++ (List.range N').map r) (vr_up f ((List.range N').map r) (.inl (cy, z)))) → va_S A H0 H1 locs →
      W p l e R s m args below meth c H1 locs (cells + 1 + N') (slots + N' + N' * K') Q (F0 m (pc + 4) ls (.ref q :: rest))) : W p l e R s m args below meth c H locs cells slots Q (F0 m pc ls (.int k :: .int n :: rest)) := by
  subst hN
  subst hM
  intro T hT Xs
  obtain ⟨vm₁, cA, comp, -, fA, fC, hO, -, X', step⟩ := Xs.multianewarray2F hexec hown hclink (va_AOA.use hover) harr (g := F0 m pc ls (.int k :: .int n :: rest)) rfl (by rw [hb]; exact hdg) rfl hn hk hb1 hb2 hb3 hdf hdd hcells hslots
  have ec : some cy = some comp := hcy.symm.trans fC
  cases ec
  generalize hF : Jvm.Free.Multi.fill (T.setVm vm₁) cA cy n.toNatClampNeg k.toNatClampNeg (defaultValue ty) n.toNatClampNeg = F at X' step
  have hTh : (T.setVm vm₁).heap = H := hT
  obtain ⟨f1, f2, -, -⟩ := Jvm.Free.Multi.fill_facts (T.setVm vm₁) cA cy n.toNatClampNeg k.toNatClampNeg (defaultValue ty) n.toNatClampNeg
  rw [hF, hTh] at f1 f2
  have hold : ∀ x : Nat, x < H.size → F.heap[x]? = H[x]? := fun x hx => by
    have := Jvm.Free.Multi.fill_old (T.setVm vm₁) cA cy n.toNatClampNeg k.toNatClampNeg (defaultValue ty) (a := x) (by rw [hTh]; exact hx) n.toNatClampNeg
    rw [hF, hTh] at this
    exact this
  have hrow : ∀ j : Nat, j < n.toNatClampNeg → F.heap[H.size + 1 + j]? = some (vp_cell cy z) := fun j hj => by
    have := Jvm.Free.Multi.fill_inner (T.setVm vm₁) cA cy n.toNatClampNeg k.toNatClampNeg (defaultValue ty) n.toNatClampNeg j hj
    rw [hF, hTh, hz] at this
    exact this
  have hout : Jvm.Free.Multi.outerC cA n.toNatClampNeg H.size n.toNatClampNeg = vp_cell cA (n.toNatClampNeg, .inr (.inr (.inr (.inr (fun i => if i < n.toNatClampNeg then some (H.size + 1 + i) else none))))) := by
    rw [vp_cell_q]
    exact vr_outer cA n.toNatClampNeg H.size n.toNatClampNeg
  rw [hout] at f2
  have hlt : ∀ a, a ∈ L → a < H.size := fun a ha => by
    obtain ⟨k9, hk9⟩ := va_pl_get (X := X) (f := f) ha
    exact (hP k9 _ hk9).lt
  have hnl : ∀ i : Nat, i < n.toNatClampNeg → H.size + 1 + i ∉ L := fun i _ h => by
    have := hlt _ h
    omega
  have hnm : ∀ a, a ∈ (List.range n.toNatClampNeg).map (fun i => H.size + 1 + i) → a ∉ L := fun a ha h => by
    obtain ⟨i, -, rfl⟩ := List.mem_map.mp ha
    have := hlt _ h
    omega
  have hP0 : va_P D cl (X ++ va_pl L f) F.heap := hP.kept (fun k9 x hx => hold x.1 ((hP k9 x hx).lt))
  have hP1 : va_P D cl ((X ++ va_pl L f) ++ [(H.size, .inl (cA, n.toNatClampNeg, .inr (.inr (.inr (.inr (fun i => if i < n.toNatClampNeg then some (H.size + 1 + i) else none))))))]) F.heap := hP0.app (fun k9 x hx => by
    have h0 : k9 < 1 := (List.getElem?_eq_some_iff.mp hx).1
    rw [show k9 = 0 by omega] at hx
    cases hx
    exact f2)
  have hP2 : va_P D cl (((X ++ va_pl L f) ++ [(H.size, .inl (cA, n.toNatClampNeg, .inr (.inr (.inr (.inr (fun i => if i < n.toNatClampNeg then some (H.size + 1 + i) else none))))))]) ++ ((List.range n.toNatClampNeg).map (fun i => H.size + 1 + i)).map (fun a => (a, .inl (cy, z)))) F.heap := hP1.app (fun k9 x hx => by
    obtain ⟨a, ha, rfl⟩ := List.mem_map.mp (List.mem_of_getElem? hx)
    obtain ⟨i, hi, rfl⟩ := List.mem_map.mp ha
    exact hrow i (List.mem_range.mp hi))
  have hD2 : va_D A (((X ++ va_pl L f) ++ [(H.size, .inl (cA, n.toNatClampNeg, .inr (.inr (.inr (.inr (fun i => if i < n.toNatClampNeg then some (H.size + 1 + i) else none))))))]) ++ ((List.range n.toNatClampNeg).map (fun i => H.size + 1 + i)).map (fun a => (a, .inl (cy, z)))) := by
    have hD1 := hD.push (e := .inl (cA, n.toNatClampNeg, .inr (.inr (.inr (.inr (fun i => if i < n.toNatClampNeg then some (H.size + 1 + i) else none)))))) hP rfl (hA _ hS.1)
    generalize hW1 : (X ++ va_pl L f) ++ [(H.size, .inl (cA, n.toNatClampNeg, .inr (.inr (.inr (.inr (fun i => if i < n.toNatClampNeg then some (H.size + 1 + i) else none))))))] = W1 at hD1 hP1 ⊢
    have hle : ∀ (k9 : Nat) (x : Nat × va_E), W1[k9]? = some x → x.1 ≤ H.size := fun k9 x hx => by
      rw [← hW1] at hx
      by_cases hl : k9 < (X ++ va_pl L f).length
      · rw [List.getElem?_append_left hl] at hx
        exact Nat.le_of_lt ((hP k9 x hx).lt)
      · rw [List.getElem?_append_right (by omega)] at hx
        have h0 : k9 - (X ++ va_pl L f).length < 1 := (List.getElem?_eq_some_iff.mp hx).1
        rw [show k9 - (X ++ va_pl L f).length = 0 by omega] at hx
        cases hx
        exact Nat.le_refl _
    have hr : ∀ (k9 : Nat) (x : Nat × va_E), (((List.range n.toNatClampNeg).map (fun i => H.size + 1 + i)).map (fun a => ((a, .inl (cy, z)) : Nat × va_E)))[k9]? = some x → x.1 = H.size + 1 + k9 := fun k9 x hx => by
      rw [List.getElem?_map, List.getElem?_map] at hx
      by_cases h9 : k9 < n.toNatClampNeg
      · rw [List.getElem?_range h9] at hx
        cases hx
        rfl
      · have hn0 : (List.range n.toNatClampNeg)[k9]? = none := List.getElem?_eq_none (by rw [List.length_range]; omega)
        rw [hn0] at hx
        cases hx
    refine ⟨fun i j x y hi hj hxy => ?_, fun k9 x hx => ?_⟩
    · by_cases h1 : i < W1.length <;> by_cases h2 : j < W1.length
      · rw [List.getElem?_append_left h1] at hi
        rw [List.getElem?_append_left h2] at hj
        exact hD1.1 i j x y hi hj hxy
      · rw [List.getElem?_append_left h1] at hi
        rw [List.getElem?_append_right (by omega)] at hj
        have := hle _ _ hi
        have := hr _ _ hj
        omega
      · rw [List.getElem?_append_right (by omega)] at hi
        rw [List.getElem?_append_left h2] at hj
        have := hle _ _ hj
        have := hr _ _ hi
        omega
      · rw [List.getElem?_append_right (by omega)] at hi hj
        have := hr _ _ hi
        have := hr _ _ hj
        omega
    · by_cases h1 : k9 < W1.length
      · rw [List.getElem?_append_left h1] at hx
        exact hD1.2 k9 x hx
      · rw [List.getElem?_append_right (by omega)] at hx
        have := hr _ _ hx
        exact hA _ (by have := hS.1; omega)
  have hAr : ArrOfT s cA (.array ty) := fun N9 z9 => by
    obtain ⟨-, k9, hk9, cm9, hkk9⟩ := (hO 0 0 0).1
    exact ⟨(fun q hq => by cases hq), k9, hk9, cm9, hkk9⟩
  have hK2 : va_K D cl (tys ++ [(cA, .array ty)]) s := ⟨hK.1, fun k9 x hx => by
    by_cases hl : k9 < tys.length
    · rw [List.getElem?_append_left hl] at hx
      exact hK.2 k9 x hx
    · rw [List.getElem?_append_right (by omega)] at hx
      have h0 : k9 - tys.length < 1 := (List.getElem?_eq_some_iff.mp hx).1
      rw [show k9 - tys.length = 0 by omega] at hx
      cases hx
      exact ⟨hAr, fA⟩⟩
  obtain ⟨t, a1, b1⟩ := kk H.size (fun i => H.size + 1 + i) cA F.heap (fun i j _ _ h => by have h9 : H.size + 1 + i = H.size + 1 + j := h; omega) hnl hK2 (by rw [← vr_rows hnm]; exact vr_lay hP2) (by rw [← vr_rows hnm]; exact vr_layD hD2) ⟨by rw [f1]; have := hS.1; omega, fun x h1 h2 => (hold x (Nat.lt_of_lt_of_le h1 hS.1)).trans (hS.2.1 x h1 h2), hS.2.2⟩ F rfl X'
  refine ⟨t, step t ?_, b1⟩
  have e : T.heap.size = H.size := by rw [hT]
  rw [e]
  exact a1
end VGM
/-! ===== END ===== -/

/-! ===== BEGIN exceptions that leave a method, and their catching by the caller (launches without stack traces) ===== -/
section VXA
/-! The laws vx_back, vx_callV, vx_callS, vx_callSW, vx_throw0, vx_throwS follow proofs of the library, with one case more: JvmDerived/Free/Laws.lean (Back.of_free), Shelf42/LK1.lean (callV, callS), Shelf/KitTraced.lean (throwNew0V, throwNewS). -/
/-- where a method has thrown q: the class by its name, the cell, what was written, the world -/
def vx_T (XC : String → State → State → Prop) (st : State) (q : Addr) (t : State) (mc ms : Nat) (free : Addr → Prop) : Prop :=
  ∃ (E : String) (ce : Cell) (L : List Loc), XC E st t ∧ t.heap[q]? = some ce ∧ ce.vm = .none ∧ st.vm.findClass E = some ce.cls ∧ st.WarmedH t.vm ∧ st.sameButNew ({ t with vm := st.vm } : State) L mc ms ∧ ∀ z ∈ L, free z.base
def vx_Q (Qc : Array Value → State → Outcome → State → Prop) (XC : String → State → State → Prop) (mc ms : Nat) (free : Addr → Prop) : Array Value → State → Outcome → State → Prop := fun a st o t =>
  (Qc a st o t ∧ ∃ L, FrameEnd st o t L mc ms ∧ ∀ q ∈ L, free q.base) ∨ ∃ q, o = .threw q ∧ vx_T XC st q t mc ms free
/-- a callee that returns or throws -/
def vx_Met (l : Launch) (y : MethodName) (ws : List Cond) (rm : Room) (Pc : Array Value → State → Prop) (Qc : Array Value → State → Outcome → State → Prop) (XC : String → State → State → Prop) (mc ms : Nat) (free : Addr → Prop) : Prop :=
  MetFree l y (headSpec ws rm) Pc (fun _ _ _ _ _ => True) (vx_Q Qc XC mc ms free)
def vx_Post (XC : String → State → State → Prop) (mc ms : Nat) (free : Addr → Prop) : Pt → Array Value → Addr → Pt → Prop := fun A a q B =>
  ∃ (g : JFrame) (mk : MethodId) (t : State) (L : List Loc) (E : String) (ce : Cell), B.U.heap = t.heap ∧ B.U.vm = t.vm ∧ XC E (A.U.calling g mk a) t ∧ t.heap[q]? = some ce ∧ ce.vm = .none ∧ A.U.vm.findClass E = some ce.cls ∧ B.locs = A.locs ++ L ∧ (∀ z ∈ L, free z.base) ∧ B.cells = A.cells + mc ∧ B.slots = A.slots + ms
def vx_Back (l : Launch) (R : Room) (p : Program) (e : Env) (below : List Frame) (s : State) (sargs : Array Value) (y : MethodName) (len W9 : Nat)
    (Pre : Pt → Array Value → Prop) (Post : Pt → Array Value → Option Value → Pt → Prop) (PostX : Pt → Array Value → Addr → Pt → Prop) : Prop :=
  ∀ (m : MethodId) (meth : Method) (c : Code) (A : Pt) (g : JFrame) (ig : Instr) (mk : MethodId) (a : Array Value),
    Stand p l e R s m sargs below meth c A.U A.locs A.cells A.slots → g.method = m → g.locals.size = c.maxLocals → decode c.code g.pc = .ok (ig, len) →
    2 * g.monitorRoom + (g.stack.map fun v => v.category).sum ≤ W9 → A.U.methodNamed? y = some mk → Pre A a →
    (∃ (v : Option Value) (B : Pt), Stand p l e R s m sargs below meth c B.U B.locs B.cells B.slots ∧ Post A a v B ∧
      Steps p.tables e below (doInvoke e (A.U.setTop g) [] mk a).1 (B.U.setTop { g with pc := g.pc + len, stack := v.toList ++ g.stack })) ∨
    (∃ (q : Addr) (B : Pt), Stand p l e R s m sargs below meth c B.U B.locs B.cells B.slots ∧ PostX A a q B ∧
      Steps p.tables e below (doInvoke e (A.U.setTop g) [] mk a).1 ((B.U.setTop g).pushFrame (.throwing q)))
section Payer
variable {l : Launch} {R : Room} {p : Program} {e : Env} {below : List Frame} {s : State} {sargs : Array Value} {y : MethodName} {len W9 : Nat}
theorem vx_back {ws : List Cond} {rm : Room} {Pc : Array Value → State → Prop} {Qc : Array Value → State → Outcome → State → Prop} {XC : String → State → State → Prop} {mc ms : Nat} {free : Addr → Prop} {bytes : ByteArray} {maxL : Nat} {ret : Option FieldType}
    (hM : vx_Met l y ws rm Pc Qc XC mc ms free) (hblind : FrameBlind Pc) (hrc : rm.cells = mc) (hrs : rm.slots = ms)
    (hframes : rm.frames + 1 ≤ R.frames) (hlocals : W9 + (maxL + 11) + rm.locals ≤ R.locals)
    (hws : ∀ w ∈ ws, ∀ a' U, s.WarmedH U.vm → w.before a' U = true) (hcode : Cond.code y bytes maxL ret ∈ ws) (hinit : ∀ a' U, s.WarmedH U.vm → (Cond.initialized y.cls).before a' U = true) :
    vx_Back l R p e below s sargs y len W9 (PreOf R mc ms Pc) (PostOf Qc mc ms free) (vx_Post XC mc ms free) := by
  intro m meth c A g ig mk a X hg hsize hdg hW hn hp
  have h1 : (headSpec ws rm).pre.before a A.U = true := atoms_intro fun w hw => hws w hw _ _ X.warmed
  have h2 : (Cond.code y bytes maxL ret).before a A.U = true := hws _ hcode _ _ X.warmed
  have h3 : (Cond.initialized y.cls).before a A.U = true := hinit _ _ X.warmed
  have h4 : A.cells + (headSpec ws rm).room.cells ≤ R.cells := by rw [show (headSpec ws rm).room.cells = mc from hrc]; exact hp.1
  have h5 : A.slots + (headSpec ws rm).room.slots ≤ R.slots := by rw [show (headSpec ws rm).room.slots = ms from hrs]; exact hp.2.1
  have hPc : Pc a (A.U.calling g mk a) := hblind _ _ _ _ hp.2.2
  obtain ⟨U, Ls, c0, s0⟩ := A
  dsimp only [Pt.U, Pt.locs, Pt.cells, Pt.slots] at h1 h2 h3 h4 h5 X hn hPc ⊢
  obtain ⟨methY, cY, hmY, hcY, -, hlY, -, -, -, -⟩ := Cond.code_spec hn h2
  obtain ⟨kY, hkY, -⟩ := className_of_methodNamed hn
  have hinitY : kY.init = .initialized := Cond.initialized_spec (findClass_of_methodNamed hn) hkY h3
  have h : At U g.method c below := by rw [hg]; exact X.here
  have hlocals9 : W9 + (maxL + 11) + (headSpec ws rm).room.locals ≤ R.locals := hlocals
  have happ : (headSpec ws rm).appliesLoose y e.platform (U.calling g mk a) = true :=
    Spec.appliesLoose_calling (g := g) h hdg hn hkY hinitY
      (X.room_calling (g := g) (R' := (headSpec ws rm).room) hsize hmY hcY hframes (by rw [hlY]; omega) h4 h5) h1
  obtain ⟨mid, hmid⟩ := h.above
  have hfr : (U.setTop g).frames = (.java g :: mid) ++ below := by rw [State.frames_setTop' g h.top, hmid]; rfl
  obtain ⟨o, s₂, hsteps, -, hend, hq⟩ := Steps.callFree hM p X.admits X.cas X.clock (acts := []) hfr happ hPc trivial
  have hq' : vx_Q Qc XC mc ms free a (U.calling g mk a) o s₂ := hq
  rw [State.frames_setTop' g h.top] at hend
  obtain ⟨g₀, hg0⟩ := Option.isSome_iff_exists.mp h.top
  obtain ⟨r, hr⟩ := State.topJava?_eq_some.mp hg0
  have hr' : (({ U with heap := s₂.heap, slotsUsed := s₂.slotsUsed } : State).setVm s₂.vm).frames = .java g₀ :: r := hr
  rcases hq' with ⟨hqc, L, hfe, hL⟩ | ⟨q, rfl, E, ce, L, hx, hce, hcv, hcl, hW₂, hsm, hL⟩
  · obtain ⟨⟨v, rfl⟩, hW₂, e2, q2, q3, q4, q5, q6⟩ := id hfe
    have e3 : s₂ = ({ (U.calling g mk a).setFrames s₂.frames with heap := s₂.heap, slotsUsed := s₂.slotsUsed } : State).setVm s₂.vm := by
      have : s₂ = ({ s₂ with vm := (U.calling g mk a).vm } : State).setVm s₂.vm := rfl
      rw [e2] at this
      exact this
    obtain ⟨c₂, i₂, len₂, hc₂, hd₂, hf₂⟩ := hend
    have hW' : U.WarmedH s₂.vm := hW₂
    have hcc : c₂ = c := by
      have h1 : s₂.code? g.method = U.code? g.method := by
        rw [State.code?_eq, State.code?_eq, hW'.alike.method?]
      exact Option.some.inj (hc₂.symm.trans (h1.trans h.code))
    subst hcc
    have hlen : len₂ = len := by rw [hdg] at hd₂; cases hd₂; rfl
    subst hlen
    have hs₂ : s₂ = (({ U with heap := s₂.heap, slotsUsed := s₂.slotsUsed } : State).setVm s₂.vm).setTop { g with pc := g.pc + len₂, stack := v.toList ++ g.stack } := by
      refine e3.trans ?_
      rw [hf₂, State.calling_eq h.top, State.setFrames_setFrames, State.setTop_of_frames _ hr', hr]
      rfl
    have hsame : U.sameButNew ({ U with heap := s₂.heap, slotsUsed := s₂.slotsUsed } : State) L mc ms := by
      refine ⟨?_, q2, q3, q4, q5, q6⟩
      obtain ⟨t, ht, -⟩ := State.frames_cons hr
      show ({ U with heap := s₂.heap, slotsUsed := s₂.slotsUsed } : State) = { U.setFrames U.frames with heap := s₂.heap, slotsUsed := s₂.slotsUsed }
      rw [State.setFrames_self ht]
    subst hg
    refine Or.inl ⟨v, ⟨(({ U with heap := s₂.heap, slotsUsed := s₂.slotsUsed } : State).setVm s₂.vm), Ls ++ L, c0 + mc, s0 + ms⟩,
      ⟨X.admits, X.cas, X.clock, X.frames, X.room, X.hears, X.method, X.code, (X.here.setHeapUsed s₂.heap s₂.slotsUsed).setVm hW'.alike, X.tail, State.WarmedH.trans X.warmed hW', X.limits, X.bytes, X.same.trans (hsame.setVm s.vm)⟩,
      ⟨g, mk, s₂, L, rfl, rfl, hqc, rfl, hL, rfl, rfl⟩, ?_⟩
    show Steps p.tables e below _ ((({ U with heap := s₂.heap, slotsUsed := s₂.slotsUsed } : State).setVm s₂.vm).setTop { g with pc := g.pc + len₂, stack := v.toList ++ g.stack })
    rw [← hs₂]
    exact hsteps
  · obtain ⟨e2, q2, q3, q4, q5, q6⟩ := id hsm
    have e3 : s₂ = ({ (U.calling g mk a).setFrames s₂.frames with heap := s₂.heap, slotsUsed := s₂.slotsUsed } : State).setVm s₂.vm := by
      have : s₂ = ({ s₂ with vm := (U.calling g mk a).vm } : State).setVm s₂.vm := rfl
      rw [e2] at this
      exact this
    have hf₂ : s₂.frames = .throwing q :: .java g :: U.frames.tail := hend
    have hW' : U.WarmedH s₂.vm := hW₂
    have hs₂ : s₂ = ((({ U with heap := s₂.heap, slotsUsed := s₂.slotsUsed } : State).setVm s₂.vm).setTop g).pushFrame (.throwing q) := by
      refine e3.trans ?_
      rw [hf₂, State.calling_eq h.top, State.setFrames_setFrames, State.pushFrame, State.frames_setTop _ hr', State.setTop_of_frames _ hr', State.setFrames_setFrames, hr]
      rfl
    have hsame : U.sameButNew ({ U with heap := s₂.heap, slotsUsed := s₂.slotsUsed } : State) L mc ms := by
      refine ⟨?_, q2, q3, q4, q5, q6⟩
      obtain ⟨t, ht, -⟩ := State.frames_cons hr
      show ({ U with heap := s₂.heap, slotsUsed := s₂.slotsUsed } : State) = { U.setFrames U.frames with heap := s₂.heap, slotsUsed := s₂.slotsUsed }
      rw [State.setFrames_self ht]
    subst hg
    refine Or.inr ⟨q, ⟨(({ U with heap := s₂.heap, slotsUsed := s₂.slotsUsed } : State).setVm s₂.vm), Ls ++ L, c0 + mc, s0 + ms⟩,
      ⟨X.admits, X.cas, X.clock, X.frames, X.room, X.hears, X.method, X.code, (X.here.setHeapUsed s₂.heap s₂.slotsUsed).setVm hW'.alike, X.tail, State.WarmedH.trans X.warmed hW', X.limits, X.bytes, X.same.trans (hsame.setVm s.vm)⟩,
      ⟨g, mk, s₂, L, E, ce, rfl, rfl, hx, hce, hcv, hcl, rfl, hL, rfl, rfl⟩, ?_⟩
    show Steps p.tables e below _ (((({ U with heap := s₂.heap, slotsUsed := s₂.slotsUsed } : State).setVm s₂.vm).setTop g).pushFrame (.throwing q))
    rw [← hs₂]
    exact hsteps
end Payer
section Calls
variable {p : Program} {l : Launch} {e : Env} {R : Room} {s : State} {m : MethodId} {args : Array Value} {below : List Frame} {meth : Method} {c : Code} {T : State} {locs : List Loc} {cells slots : Nat}
theorem vx_callV (X : Stand p l e R s m args below meth c T locs cells slots) (hexec : p.tables.exec = Jvm.exec) {own C : String} {index : Nat} {y : MethodName} {bytes : ByteArray} {maxL : Nat} {ret : Option FieldType}
    (hown : s.vm.findClass own = some m.cls) (hlink : (Cond.methodLink own index y).before args s = true) (hinst : (Cond.instanceMethod y).before args s = true) (hsel : (Cond.selects C y y).before args s = true)
    (hcode : (Cond.code y bytes maxL ret).before args s = true) (hy : y.cls ≠ "java/lang/invoke/MethodHandle" ∧ y.cls ≠ "java/lang/invoke/VarHandle")
    {W9 : Nat} {Pre : Pt → Array Value → Prop} {Post : Pt → Array Value → Option Value → Pt → Prop} {PostX : Pt → Array Value → Addr → Pt → Prop} (hK : vx_Back l R p e below s args y 3 W9 Pre Post PostX)
    {b : Addr} {cellB : Cell} (hcell : T.heap[b]? = some cellB) (hobj : cellB.vm.isStatics = false) (hcls : s.vm.findClass C = some cellB.cls)
    {g : JFrame} (hg : g.method = m) (hsize : g.locals.size = c.maxLocals) {argsL rest : List Value} (hlen : ∀ sig, parseMethodDescriptor y.desc = some sig → argsL.length = sig.parameters.length)
    (hstack : g.stack = argsL.reverse ++ .ref b :: rest) (hW : 2 * g.monitorRoom + (rest.map fun v => v.category).sum ≤ W9) (hdg : decode c.code g.pc = .ok (.invokevirtual index, 3))
    (hpre : ∀ vm₁, s.WarmedH vm₁ → Pre ⟨T.setVm vm₁, locs, cells, slots⟩ (Value.ref b :: argsL).toArray) :
    (∃ (v : Option Value) (vm₁ : Vm) (B : Pt), s.WarmedH vm₁ ∧ Stand p l e R s m args below meth c B.U B.locs B.cells B.slots ∧ Post ⟨T.setVm vm₁, locs, cells, slots⟩ (Value.ref b :: argsL).toArray v B ∧
      ∀ target, Steps p.tables e below (B.U.setTop { g with pc := g.pc + 3, stack := v.toList ++ rest }) target → Steps p.tables e below (T.setTop g) target) ∨
    (∃ (q : Addr) (vm₁ : Vm) (B : Pt), s.WarmedH vm₁ ∧ Stand p l e R s m args below meth c B.U B.locs B.cells B.slots ∧ PostX ⟨T.setVm vm₁, locs, cells, slots⟩ (Value.ref b :: argsL).toArray q B ∧
      Steps p.tables e below (T.setTop g) ((B.U.setTop { g with stack := rest }).pushFrame (.throwing q))) := by
  obtain ⟨mk, methM, hnamed, hmethM, hstM, habM⟩ := Cond.instanceMethod_spec hinst
  obtain ⟨methM', cM, hmethM', -, -, -, -, -, -, hsigM⟩ := Cond.code_spec hnamed hcode
  cases hmethM.symm.trans hmethM'
  obtain ⟨c2, r2, m2, q1, q2, q3, q4, kP, hkP, hkPi⟩ := Cond.selects_spec hsel
  cases hcls.symm.trans q1
  cases (State.methodFound?_of_named hnamed hy).symm.trans q2
  cases hnamed.symm.trans q3
  have hselP : selectMethod e.platform s.vm cellB.cls mk = .method mk := by rw [Launch.admits_selectMethod X.admits]; exact q4
  obtain ⟨vm₁, X₁, hstep₁⟩ := X.invokevirtual hexec hown hlink hnamed hmethM hstM hkP hkPi hy (a := b) (cell := cellB) hcell
    (fun z h => by rw [h] at hobj; cases hobj) hselP hmethM habM hkP hkPi (g := g) hg (argsL := argsL) (rest := rest) (hlen _ hsigM) hstack hdg
  rcases hK m meth c ⟨T.setVm vm₁, locs, cells, slots⟩ { g with stack := rest } (.invokevirtual index) mk (Value.ref b :: argsL).toArray X₁ hg hsize hdg hW (X₁.named hnamed) (hpre vm₁ X₁.warmed) with ⟨v, B, X', hpost, hsteps⟩ | ⟨q, B, X', hpost, hsteps⟩
  · exact Or.inl ⟨v, vm₁, B, X₁.warmed, X', hpost, fun target h => hstep₁ _ fun acts => by rw [doInvoke_state]; exact hsteps.trans h⟩
  · exact Or.inr ⟨q, vm₁, B, X₁.warmed, X', hpost, hstep₁ _ fun acts => by rw [doInvoke_state]; exact hsteps⟩
theorem vx_callS (X : Stand p l e R s m args below meth c T locs cells slots) (hexec : p.tables.exec = Jvm.exec) {own : String} {index : Nat} {y : MethodName} {bytes : ByteArray} {maxL : Nat} {ret : Option FieldType}
    (hown : s.vm.findClass own = some m.cls) (hlink : (Cond.methodLink own index y).before args s = true) (hstat : (Cond.static y).before args s = true) (hinit : (Cond.initialized y.cls).before args s = true)
    (hcode : (Cond.code y bytes maxL ret).before args s = true) (hy : y.cls ≠ "java/lang/invoke/MethodHandle" ∧ y.cls ≠ "java/lang/invoke/VarHandle")
    {W9 : Nat} {Pre : Pt → Array Value → Prop} {Post : Pt → Array Value → Option Value → Pt → Prop} {PostX : Pt → Array Value → Addr → Pt → Prop} (hK : vx_Back l R p e below s args y 3 W9 Pre Post PostX)
    {g : JFrame} (hg : g.method = m) (hsize : g.locals.size = c.maxLocals) {argsL rest : List Value} (hlen : ∀ sig, parseMethodDescriptor y.desc = some sig → argsL.length = sig.parameters.length)
    (hstack : g.stack = argsL.reverse ++ rest) (hW : 2 * g.monitorRoom + (rest.map fun v => v.category).sum ≤ W9) (hdg : decode c.code g.pc = .ok (.invokestatic index, 3))
    (hpre : ∀ vm₁, s.WarmedH vm₁ → Pre ⟨T.setVm vm₁, locs, cells, slots⟩ argsL.toArray) :
    (∃ (v : Option Value) (vm₁ : Vm) (B : Pt), s.WarmedH vm₁ ∧ Stand p l e R s m args below meth c B.U B.locs B.cells B.slots ∧ Post ⟨T.setVm vm₁, locs, cells, slots⟩ argsL.toArray v B ∧
      ∀ target, Steps p.tables e below (B.U.setTop { g with pc := g.pc + 3, stack := v.toList ++ rest }) target → Steps p.tables e below (T.setTop g) target) ∨
    (∃ (q : Addr) (vm₁ : Vm) (B : Pt), s.WarmedH vm₁ ∧ Stand p l e R s m args below meth c B.U B.locs B.cells B.slots ∧ PostX ⟨T.setVm vm₁, locs, cells, slots⟩ argsL.toArray q B ∧
      Steps p.tables e below (T.setTop g) ((B.U.setTop { g with stack := rest }).pushFrame (.throwing q))) := by
  obtain ⟨mk, hnamed⟩ := Cond.code_named hcode
  obtain ⟨methM, cM, hmethM, -, -, -, -, -, -, hsigM⟩ := Cond.code_spec hnamed hcode
  have hstatic : methM.isStatic = true := Cond.static_spec hnamed hmethM hstat
  obtain ⟨kP, hkP, -⟩ := className_of_methodNamed hnamed
  have hinitP : kP.init = .initialized := Cond.initialized_spec (findClass_of_methodNamed hnamed) hkP hinit
  obtain ⟨vm₁, X₁, hstep₁⟩ := X.invokestatic hexec hown hlink hnamed hmethM hstatic hkP hinitP hy (g := g) hg (argsL := argsL) (rest := rest) (hlen _ hsigM) hstack hdg
  rcases hK m meth c ⟨T.setVm vm₁, locs, cells, slots⟩ { g with stack := rest } (.invokestatic index) mk argsL.toArray X₁ hg hsize hdg hW (X₁.named hnamed) (hpre vm₁ X₁.warmed) with ⟨v, B, X', hpost, hsteps⟩ | ⟨q, B, X', hpost, hsteps⟩
  · exact Or.inl ⟨v, vm₁, B, X₁.warmed, X', hpost, fun target h => hstep₁ _ fun acts => by rw [doInvoke_state]; exact hsteps.trans h⟩
  · exact Or.inr ⟨q, vm₁, B, X₁.warmed, X', hpost, hstep₁ _ fun acts => by rw [doInvoke_state]; exact hsteps⟩
end Calls
theorem vx_cls {s : State} {T : State} {vm₁ : Vm} {E : String} {k : ClassId} (hW : s.WarmedH vm₁) (h : (T.setVm vm₁).vm.findClass E = some k) : s.vm.findClass E = some k := by
  have h1 : vm₁.findClass E = some k := h
  rw [hW.alike.findClass] at h1
  exact h1
/-- the method's frame g, with q thrown over it -/
def vx_W (p : Program) (l : Launch) (e : Env) (R : Room) (s : State) (m : MethodId) (args : Array Value) (below : List Frame) (meth : Method) (c : Code) (H : Heap) (locs : List Loc) (cells slots : Nat) (Q : State → Prop) (g : JFrame) (q : Addr) : Prop :=
  ∀ T : State, T.heap = H → Stand p l e R s m args below meth c T locs cells slots → ∃ t, Steps p.tables e below ((T.setTop g).pushFrame (.throwing q)) t ∧ Q t
def vx_Run (p : Program) (l : Launch) (e : Env) (R : Room) (s : State) (m : MethodId) (args : Array Value) (below : List Frame) (meth : Method) (c : Code) (H : Heap) (locs : List Loc) (cells slots mc ms : Nat) (g : JFrame) (rest : List Value) (Qa : State → Outcome → State → Prop) (XC : String → State → State → Prop) (free : Addr → Prop) : Prop :=
  ∀ T : State, T.heap = H → Stand p l e R s m args below meth c T locs cells slots →
    (∃ (v : Option Value) (st₀ t T' : State) (L : List Loc), st₀.heap = H ∧ Stand p l e R s m args below meth c T' (locs ++ L) (cells + mc) (slots + ms) ∧ (∀ q ∈ L, free q.base) ∧ T'.heap = t.heap ∧ T'.vm = t.vm ∧ Qa st₀ (.returned v) t ∧
      Goes p e below T g T' { g with pc := g.pc + 3, stack := v.toList ++ rest }) ∨
    (∃ (q : Addr) (st₀ t T' : State) (L : List Loc) (E : String) (ce : Cell), st₀.heap = H ∧ Stand p l e R s m args below meth c T' (locs ++ L) (cells + mc) (slots + ms) ∧ (∀ z ∈ L, free z.base) ∧ T'.heap = t.heap ∧ T'.vm = t.vm ∧ XC E st₀ t ∧ t.heap[q]? = some ce ∧ ce.vm = .none ∧ s.vm.findClass E = some ce.cls ∧
      Steps p.tables e below (T.setTop g) ((T'.setTop { g with stack := rest }).pushFrame (.throwing q)))
def vx_X {S : Type} (px : S → Prop) (B : String → S → State → Prop) (A : Nat → Prop) : String → State → State → Prop := fun E st t => ∃ u : S, px u ∧ B E u t ∧ va_F A st t
section Runs
variable {p : Program} {l : Launch} {e : Env} {R : Room} {s : State} {m : MethodId} {args : Array Value} {below : List Frame} {meth : Method} {c : Code} {H : Heap} {locs : List Loc} {cells slots : Nat}
variable {y : MethodName} {bytes cc : ByteArray} {maxL nL mc ms n index : Nat} {ret : Option FieldType} {ws : List Cond} {rm : Room} {Pc : Array Value → State → Prop} {Qc : Array Value → State → Outcome → State → Prop} {XC : String → State → State → Prop} {free : Addr → Prop} {Ts : List Cond} {own C : String} {b : Addr} {As rest : List Value} {g : JFrame}
theorem vx_callBack (cb : CallB R s args own index y bytes maxL ret ws rm mc ms n) (hM : vx_Met l y ws rm Pc Qc XC mc ms free) (hbl : FrameBlind Pc) : vx_Back l R p e below s args y 3 8 (PreOf R mc ms Pc) (PostOf Qc mc ms free) (vx_Post XC mc ms free) := by
  obtain ⟨hrc, hrs, hfr, hlo, hws, hcw, -, hini, -⟩ := cb
  exact vx_back (bytes := bytes) (maxL := maxL) (ret := ret) hM hbl hrc hrs hfr hlo hws hcw (fun a' U hW => word_at hW (Or.inl (by first | rfl | simp [Cond.onTables, Cond.keeps, Cond.steady])) hini)
theorem vx_runV (S : CallFix p m c cc nL s args Ts own) (hM : vx_Met l y ws rm Pc Qc XC mc ms free) (cw : CallW R s args own C index y bytes maxL ret ws rm mc ms n) (hp : PreV s H C b Pc As)
    (hg : g.method = m) (hn : As.length = n) (hsize : g.locals.size = nL) (hstack : g.stack = As.reverse ++ .ref b :: rest) (hW : 2 * g.monitorRoom + (rest.map fun v => v.category).sum ≤ 8) (hdg : decode cc g.pc = .ok (.invokevirtual index, 3)) (hf : cells + mc ≤ R.cells ∧ slots + ms ≤ R.slots) :
    vx_Run p l e R s m args below meth c H locs cells slots mc ms g rest (Qc (Value.ref b :: As).toArray) XC free := by
  have hK : vx_Back l R p e below s args y 3 8 (PreOf R mc ms Pc) (PostOf Qc mc ms free) (vx_Post XC mc ms free) := vx_callBack cw.1 hM hp.1
  obtain ⟨⟨-, -, -, -, -, -, hcode, -, hy, hlen, hl⟩, hin, hse⟩ := cw
  obtain ⟨hx, hb, hml, ho, -⟩ := S
  obtain ⟨-, ⟨cellB, hcB, hoB, hclB⟩, hPc⟩ := hp
  intro T hT X
  rcases vx_callV X hx (C := C) (bytes := bytes) (maxL := maxL) (ret := ret) ho hl hin hse hcode hy hK (by rw [hT]; exact hcB) hoB hclB hg (hsize.trans hml.symm) (argsL := As) (rest := rest) (fun sig h => hn.trans (hlen sig h)) hstack hW (by rw [hb]; exact hdg)
    (fun vm₁ hW₁ => ⟨hf.1, hf.2, hPc (T.setVm vm₁) hT hW₁⟩) with ⟨v, vm₁, ⟨U', l2, c2, s2⟩, hW₁, X', ⟨g', mk, t, L, e1, e2, hq, h1, hL, h2, h3⟩, st⟩ | ⟨q, vm₁, ⟨U', l2, c2, s2⟩, hW₁, X', ⟨g', mk, t, L, E, ce, e1, e2, hq, hce, hcv, hcl, h1, hL, h2, h3⟩, st⟩
  · dsimp only [Pt.U, Pt.locs, Pt.cells, Pt.slots] at X' e1 e2 h1 h2 h3 st
    subst h1; subst h2; subst h3
    exact Or.inl ⟨v, (T.setVm vm₁).calling g' mk (Value.ref b :: As).toArray, t, U', L, hT, X', hL, e1, e2, hq, st⟩
  · dsimp only [Pt.U, Pt.locs, Pt.cells, Pt.slots] at X' e1 e2 h1 h2 h3 st hcl
    subst h1; subst h2; subst h3
    exact Or.inr ⟨q, (T.setVm vm₁).calling g' mk (Value.ref b :: As).toArray, t, U', L, E, ce, hT, X', hL, e1, e2, hq, hce, hcv, vx_cls hW₁ hcl, st⟩
theorem vx_runS (S : CallFix p m c cc nL s args Ts own) (hM : vx_Met l y ws rm Pc Qc XC mc ms free) (cw : CallB R s args own index y bytes maxL ret ws rm mc ms n ∧ (Cond.static y).before args s = true) (hp : PreS s H Pc As)
    (hg : g.method = m) (hn : As.length = n) (hsize : g.locals.size = nL) (hstack : g.stack = As.reverse ++ rest) (hW : 2 * g.monitorRoom + (rest.map fun v => v.category).sum ≤ 8) (hdg : decode cc g.pc = .ok (.invokestatic index, 3)) (hf : cells + mc ≤ R.cells ∧ slots + ms ≤ R.slots) :
    vx_Run p l e R s m args below meth c H locs cells slots mc ms g rest (Qc As.toArray) XC free := by
  have hK : vx_Back l R p e below s args y 3 8 (PreOf R mc ms Pc) (PostOf Qc mc ms free) (vx_Post XC mc ms free) := vx_callBack cw.1 hM hp.1
  obtain ⟨⟨-, -, -, -, -, -, hcode, hini, hy, hlen, hl⟩, hstt⟩ := cw
  obtain ⟨hx, hb, hml, ho, -⟩ := S
  intro T hT X
  rcases vx_callS X hx (bytes := bytes) (maxL := maxL) (ret := ret) ho hl hstt hini hcode hy hK hg (hsize.trans hml.symm) (argsL := As) (rest := rest) (fun sig h => hn.trans (hlen sig h)) hstack hW (by rw [hb]; exact hdg)
    (fun vm₁ hW₁ => ⟨hf.1, hf.2, hp.2 (T.setVm vm₁) hT hW₁⟩) with ⟨v, vm₁, ⟨U', l2, c2, s2⟩, hW₁, X', ⟨g', mk, t, L, e1, e2, hq, h1, hL, h2, h3⟩, st⟩ | ⟨q, vm₁, ⟨U', l2, c2, s2⟩, hW₁, X', ⟨g', mk, t, L, E, ce, e1, e2, hq, hce, hcv, hcl, h1, hL, h2, h3⟩, st⟩
  · dsimp only [Pt.U, Pt.locs, Pt.cells, Pt.slots] at X' e1 e2 h1 h2 h3 st
    subst h1; subst h2; subst h3
    exact Or.inl ⟨v, (T.setVm vm₁).calling g' mk As.toArray, t, U', L, hT, X', hL, e1, e2, hq, st⟩
  · dsimp only [Pt.U, Pt.locs, Pt.cells, Pt.slots] at X' e1 e2 h1 h2 h3 st hcl
    subst h1; subst h2; subst h3
    exact Or.inr ⟨q, (T.setVm vm₁).calling g' mk As.toArray, t, U', L, E, ce, hT, X', hL, e1, e2, hq, hce, hcv, vx_cls hW₁ hcl, st⟩
end Runs
section Rows
variable {p : Program} {l : Launch} {e : Env} {R : Room} {s : State} {m : MethodId} {args : Array Value} {below : List Frame} {meth : Method} {c : Code} {H : Heap} {locs : List Loc} {cells slots : Nat} {Q : State → Prop}
variable {mc ms : Nat} {free : Addr → Prop} {A0 A1 : Nat → Prop} {H0 : Heap} {a : Array Value} {pc : Nat} {ls : Array Slot} {st0 rest : List Value}
theorem vx_keep {st₀ t T' : State} {L : List Loc} (h0 : st₀.heap = H) (e1 : T'.heap = t.heap) (hS : va_S A0 H0 H locs) (hA : ∀ q, q < H.size → A1 q → A0 q) (hf : ∀ q, free q → A0 q) (hL : ∀ q ∈ L, free q.base) (hF : va_F A1 st₀ t) :
    H.size ≤ T'.heap.size ∧ (∀ q : Nat, q < H.size → ¬ A1 q → T'.heap[q]? = H[q]?) ∧ va_S A0 H0 T'.heap (locs ++ L) := by
  obtain ⟨hz, hk⟩ := hF
  rw [h0] at hz hk
  exact ⟨by rw [e1]; exact hz, fun q h1 h2 => by rw [e1]; exact hk q h1 h2,
    ⟨Nat.le_trans hS.1 (by rw [e1]; exact hz), fun q h1 h2 => by rw [e1, hk q (Nat.lt_of_lt_of_le h1 hS.1) (fun z => h2 (hA q (Nat.lt_of_lt_of_le h1 hS.1) z))]; exact hS.2.1 q h1 h2, fun q hq => by
      rcases List.mem_append.mp hq with h | h
      · exact hS.2.2 q h
      · exact hf _ (hL q h)⟩⟩
theorem vx_calli {S SX : Type} {post : Int32 → S → Prop} {px : SX → Prop} {B : S → State → Prop} {BX : String → SX → State → Prop} {AX : Nat → Prop} (hr : vx_Run p l e R s m args below meth c H locs cells slots mc ms (F0 m pc ls st0) rest (va_Qi post B A1 a) (vx_X px BX AX) free) (hS : va_S A0 H0 H locs) (hA : ∀ q, q < H.size → A1 q → A0 q) (hf : ∀ q, free q → A0 q) (hAX : ∀ q, q < H.size → AX q → A0 q)
    (kx : ∀ (E : String) (ce : Cell) (q9 : Addr) (u : SX) (t : State) (H1 : Heap) (locs1 : List Loc), t.heap = H1 → s.vm.Alike t.vm → px u → BX E u t → H.size ≤ H1.size → (∀ q : Nat, q < H.size → ¬ AX q → H1[q]? = H[q]?) → va_S A0 H0 H1 locs1 → H1[q9]? = some ce → ce.vm = .none → s.vm.findClass E = some ce.cls → vx_W p l e R s m args below meth c H1 locs1 (cells + mc) (slots + ms) Q (F0 m pc ls rest) q9)
    (kk : ∀ (r : Int32) (u : S) (t : State) (H1 : Heap) (locs1 : List Loc), t.heap = H1 → s.vm.Alike t.vm → post r u → B u t → H.size ≤ H1.size → (∀ q : Nat, q < H.size → ¬ A1 q → H1[q]? = H[q]?) → va_S A0 H0 H1 locs1 → W p l e R s m args below meth c H1 locs1 (cells + mc) (slots + ms) Q (F0 m (pc + 3) ls (.int r :: rest))) : W p l e R s m args below meth c H locs cells slots Q (F0 m pc ls st0) := by
  intro T hT X
  rcases hr T hT X with ⟨v, st₀, t, T', L, h0, X', hL, e1, e2, ⟨⟨r, u, hv, hp, hb⟩, hF⟩, st⟩ | ⟨q, st₀, t, T', L, E, ce, h0, X', hL, e1, e2, ⟨u, hp, hb, hF⟩, hce, hcv, hcl, st⟩
  · cases hv
    obtain ⟨k1, k2, k3⟩ := vx_keep h0 e1 hS hA hf hL hF
    obtain ⟨t2, a1, b1⟩ := kk r u t T'.heap (locs ++ L) e1.symm (by rw [← e2]; exact X'.warmed.alike) hp hb k1 k2 k3 T' rfl X'
    exact ⟨t2, st t2 a1, b1⟩
  · obtain ⟨k1, k2, k3⟩ := vx_keep h0 e1 hS hAX hf hL hF
    obtain ⟨t2, a1, b1⟩ := kx E ce q u t T'.heap (locs ++ L) e1.symm (by rw [← e2]; exact X'.warmed.alike) hp hb k1 k2 k3 (by rw [e1]; exact hce) hcv hcl T' rfl X'
    exact ⟨t2, st.trans a1, b1⟩
theorem vx_calll {S SX : Type} {post : Int64 → S → Prop} {px : SX → Prop} {B : S → State → Prop} {BX : String → SX → State → Prop} {AX : Nat → Prop} (hr : vx_Run p l e R s m args below meth c H locs cells slots mc ms (F0 m pc ls st0) rest (va_Ql post B A1 a) (vx_X px BX AX) free) (hS : va_S A0 H0 H locs) (hA : ∀ q, q < H.size → A1 q → A0 q) (hf : ∀ q, free q → A0 q) (hAX : ∀ q, q < H.size → AX q → A0 q)
    (kx : ∀ (E : String) (ce : Cell) (q9 : Addr) (u : SX) (t : State) (H1 : Heap) (locs1 : List Loc), t.heap = H1 → s.vm.Alike t.vm → px u → BX E u t → H.size ≤ H1.size → (∀ q : Nat, q < H.size → ¬ AX q → H1[q]? = H[q]?) → va_S A0 H0 H1 locs1 → H1[q9]? = some ce → ce.vm = .none → s.vm.findClass E = some ce.cls → vx_W p l e R s m args below meth c H1 locs1 (cells + mc) (slots + ms) Q (F0 m pc ls rest) q9)
    (kk : ∀ (r : Int64) (u : S) (t : State) (H1 : Heap) (locs1 : List Loc), t.heap = H1 → s.vm.Alike t.vm → post r u → B u t → H.size ≤ H1.size → (∀ q : Nat, q < H.size → ¬ A1 q → H1[q]? = H[q]?) → va_S A0 H0 H1 locs1 → W p l e R s m args below meth c H1 locs1 (cells + mc) (slots + ms) Q (F0 m (pc + 3) ls (.long r :: rest))) : W p l e R s m args below meth c H locs cells slots Q (F0 m pc ls st0) := by
  intro T hT X
  rcases hr T hT X with ⟨v, st₀, t, T', L, h0, X', hL, e1, e2, ⟨⟨r, u, hv, hp, hb⟩, hF⟩, st⟩ | ⟨q, st₀, t, T', L, E, ce, h0, X', hL, e1, e2, ⟨u, hp, hb, hF⟩, hce, hcv, hcl, st⟩
  · cases hv
    obtain ⟨k1, k2, k3⟩ := vx_keep h0 e1 hS hA hf hL hF
    obtain ⟨t2, a1, b1⟩ := kk r u t T'.heap (locs ++ L) e1.symm (by rw [← e2]; exact X'.warmed.alike) hp hb k1 k2 k3 T' rfl X'
    exact ⟨t2, st t2 a1, b1⟩
  · obtain ⟨k1, k2, k3⟩ := vx_keep h0 e1 hS hAX hf hL hF
    obtain ⟨t2, a1, b1⟩ := kx E ce q u t T'.heap (locs ++ L) e1.symm (by rw [← e2]; exact X'.warmed.alike) hp hb k1 k2 k3 (by rw [e1]; exact hce) hcv hcl T' rfl X'
    exact ⟨t2, st.trans a1, b1⟩
theorem vx_callf {S SX : Type} {post : UInt32 → S → Prop} {px : SX → Prop} {B : S → State → Prop} {BX : String → SX → State → Prop} {AX : Nat → Prop} (hr : vx_Run p l e R s m args below meth c H locs cells slots mc ms (F0 m pc ls st0) rest (va_Qf post B A1 a) (vx_X px BX AX) free) (hS : va_S A0 H0 H locs) (hA : ∀ q, q < H.size → A1 q → A0 q) (hf : ∀ q, free q → A0 q) (hAX : ∀ q, q < H.size → AX q → A0 q)
    (kx : ∀ (E : String) (ce : Cell) (q9 : Addr) (u : SX) (t : State) (H1 : Heap) (locs1 : List Loc), t.heap = H1 → s.vm.Alike t.vm → px u → BX E u t → H.size ≤ H1.size → (∀ q : Nat, q < H.size → ¬ AX q → H1[q]? = H[q]?) → va_S A0 H0 H1 locs1 → H1[q9]? = some ce → ce.vm = .none → s.vm.findClass E = some ce.cls → vx_W p l e R s m args below meth c H1 locs1 (cells + mc) (slots + ms) Q (F0 m pc ls rest) q9)
    (kk : ∀ (r : UInt32) (u : S) (t : State) (H1 : Heap) (locs1 : List Loc), t.heap = H1 → s.vm.Alike t.vm → post r u → B u t → H.size ≤ H1.size → (∀ q : Nat, q < H.size → ¬ A1 q → H1[q]? = H[q]?) → va_S A0 H0 H1 locs1 → W p l e R s m args below meth c H1 locs1 (cells + mc) (slots + ms) Q (F0 m (pc + 3) ls (.float r :: rest))) : W p l e R s m args below meth c H locs cells slots Q (F0 m pc ls st0) := by
  intro T hT X
  rcases hr T hT X with ⟨v, st₀, t, T', L, h0, X', hL, e1, e2, ⟨⟨r, u, hv, hp, hb⟩, hF⟩, st⟩ | ⟨q, st₀, t, T', L, E, ce, h0, X', hL, e1, e2, ⟨u, hp, hb, hF⟩, hce, hcv, hcl, st⟩
  · cases hv
    obtain ⟨k1, k2, k3⟩ := vx_keep h0 e1 hS hA hf hL hF
    obtain ⟨t2, a1, b1⟩ := kk r u t T'.heap (locs ++ L) e1.symm (by rw [← e2]; exact X'.warmed.alike) hp hb k1 k2 k3 T' rfl X'
    exact ⟨t2, st t2 a1, b1⟩
  · obtain ⟨k1, k2, k3⟩ := vx_keep h0 e1 hS hAX hf hL hF
    obtain ⟨t2, a1, b1⟩ := kx E ce q u t T'.heap (locs ++ L) e1.symm (by rw [← e2]; exact X'.warmed.alike) hp hb k1 k2 k3 (by rw [e1]; exact hce) hcv hcl T' rfl X'
    exact ⟨t2, st.trans a1, b1⟩
theorem vx_calld {S SX : Type} {post : UInt64 → S → Prop} {px : SX → Prop} {B : S → State → Prop} {BX : String → SX → State → Prop} {AX : Nat → Prop} (hr : vx_Run p l e R s m args below meth c H locs cells slots mc ms (F0 m pc ls st0) rest (va_Qd post B A1 a) (vx_X px BX AX) free) (hS : va_S A0 H0 H locs) (hA : ∀ q, q < H.size → A1 q → A0 q) (hf : ∀ q, free q → A0 q) (hAX : ∀ q, q < H.size → AX q → A0 q)
    (kx : ∀ (E : String) (ce : Cell) (q9 : Addr) (u : SX) (t : State) (H1 : Heap) (locs1 : List Loc), t.heap = H1 → s.vm.Alike t.vm → px u → BX E u t → H.size ≤ H1.size → (∀ q : Nat, q < H.size → ¬ AX q → H1[q]? = H[q]?) → va_S A0 H0 H1 locs1 → H1[q9]? = some ce → ce.vm = .none → s.vm.findClass E = some ce.cls → vx_W p l e R s m args below meth c H1 locs1 (cells + mc) (slots + ms) Q (F0 m pc ls rest) q9)
    (kk : ∀ (r : UInt64) (u : S) (t : State) (H1 : Heap) (locs1 : List Loc), t.heap = H1 → s.vm.Alike t.vm → post r u → B u t → H.size ≤ H1.size → (∀ q : Nat, q < H.size → ¬ A1 q → H1[q]? = H[q]?) → va_S A0 H0 H1 locs1 → W p l e R s m args below meth c H1 locs1 (cells + mc) (slots + ms) Q (F0 m (pc + 3) ls (.double r :: rest))) : W p l e R s m args below meth c H locs cells slots Q (F0 m pc ls st0) := by
  intro T hT X
  rcases hr T hT X with ⟨v, st₀, t, T', L, h0, X', hL, e1, e2, ⟨⟨r, u, hv, hp, hb⟩, hF⟩, st⟩ | ⟨q, st₀, t, T', L, E, ce, h0, X', hL, e1, e2, ⟨u, hp, hb, hF⟩, hce, hcv, hcl, st⟩
  · cases hv
    obtain ⟨k1, k2, k3⟩ := vx_keep h0 e1 hS hA hf hL hF
    obtain ⟨t2, a1, b1⟩ := kk r u t T'.heap (locs ++ L) e1.symm (by rw [← e2]; exact X'.warmed.alike) hp hb k1 k2 k3 T' rfl X'
    exact ⟨t2, st t2 a1, b1⟩
  · obtain ⟨k1, k2, k3⟩ := vx_keep h0 e1 hS hAX hf hL hF
    obtain ⟨t2, a1, b1⟩ := kx E ce q u t T'.heap (locs ++ L) e1.symm (by rw [← e2]; exact X'.warmed.alike) hp hb k1 k2 k3 (by rw [e1]; exact hce) hcv hcl T' rfl X'
    exact ⟨t2, st.trans a1, b1⟩
theorem vx_callv {S SX : Type} {post : S → Prop} {px : SX → Prop} {B : S → State → Prop} {BX : String → SX → State → Prop} {AX : Nat → Prop} (hr : vx_Run p l e R s m args below meth c H locs cells slots mc ms (F0 m pc ls st0) rest (va_Qv post B A1 a) (vx_X px BX AX) free) (hS : va_S A0 H0 H locs) (hA : ∀ q, q < H.size → A1 q → A0 q) (hf : ∀ q, free q → A0 q) (hAX : ∀ q, q < H.size → AX q → A0 q)
    (kx : ∀ (E : String) (ce : Cell) (q9 : Addr) (u : SX) (t : State) (H1 : Heap) (locs1 : List Loc), t.heap = H1 → s.vm.Alike t.vm → px u → BX E u t → H.size ≤ H1.size → (∀ q : Nat, q < H.size → ¬ AX q → H1[q]? = H[q]?) → va_S A0 H0 H1 locs1 → H1[q9]? = some ce → ce.vm = .none → s.vm.findClass E = some ce.cls → vx_W p l e R s m args below meth c H1 locs1 (cells + mc) (slots + ms) Q (F0 m pc ls rest) q9)
    (kk : ∀ (u : S) (t : State) (H1 : Heap) (locs1 : List Loc), t.heap = H1 → s.vm.Alike t.vm → post u → B u t → H.size ≤ H1.size → (∀ q : Nat, q < H.size → ¬ A1 q → H1[q]? = H[q]?) → va_S A0 H0 H1 locs1 → W p l e R s m args below meth c H1 locs1 (cells + mc) (slots + ms) Q (F0 m (pc + 3) ls (rest))) : W p l e R s m args below meth c H locs cells slots Q (F0 m pc ls st0) := by
  intro T hT X
  rcases hr T hT X with ⟨v, st₀, t, T', L, h0, X', hL, e1, e2, ⟨⟨u, hv, hp, hb⟩, hF⟩, st⟩ | ⟨q, st₀, t, T', L, E, ce, h0, X', hL, e1, e2, ⟨u, hp, hb, hF⟩, hce, hcv, hcl, st⟩
  · cases hv
    obtain ⟨k1, k2, k3⟩ := vx_keep h0 e1 hS hA hf hL hF
    obtain ⟨t2, a1, b1⟩ := kk u t T'.heap (locs ++ L) e1.symm (by rw [← e2]; exact X'.warmed.alike) hp hb k1 k2 k3 T' rfl X'
    exact ⟨t2, st t2 a1, b1⟩
  · obtain ⟨k1, k2, k3⟩ := vx_keep h0 e1 hS hAX hf hL hF
    obtain ⟨t2, a1, b1⟩ := kx E ce q u t T'.heap (locs ++ L) e1.symm (by rw [← e2]; exact X'.warmed.alike) hp hb k1 k2 k3 (by rw [e1]; exact hce) hcv hcl T' rfl X'
    exact ⟨t2, st.trans a1, b1⟩
/-- caught by the row x of this method's table; the rows ahead don't take it -/
theorem vx_catch {own name : String} {E : String} {ce : Cell} {q : Addr} (hown : s.vm.findClass own = some m.cls) (pre : List ExceptionTableEntry) (x : ExceptionTableEntry) (suf : List ExceptionTableEntry) (hsplit : c.exceptionTable.toList = pre ++ x :: suf)
    (hpass : ∀ z ∈ pre, covers z pc = false ∨ (z.catchType ≠ 0 ∧ ∃ nm : String, (Cond.classLink own z.catchType nm).before args s = true ∧ va_Nc E nm s)) (hx : covers x pc = true) (h0 : x.catchType ≠ 0)
    (hlink : (Cond.classLink own x.catchType name).before args s = true) (hcast : (Cond.castable E name).before args s = true) (hcell : H[q]? = some ce) (hv : ce.vm = .none) (hcl : s.vm.findClass E = some ce.cls)
    (kk : W p l e R s m args below meth c H locs cells slots Q (F0 m x.handlerPc ls [.ref q])) : vx_W p l e R s m args below meth c H locs cells slots Q (F0 m pc ls rest) q := by
  intro T hT X
  have hpl : e.platform.magicAccessors = ({} : Platform).magicAccessors := by rw [X.admits.platform]
  obtain ⟨c3, c4, hc3, hc4, hasg⟩ := Cond.castable_spec hcast
  cases Option.some.inj (hc3.symm.trans hcl)
  obtain ⟨c5, hc5, hcl5⟩ := Cond.classLink_spec hown hlink e.platform hpl
  cases Option.some.inj (hc4.symm.trans hc5)
  obtain ⟨vm', X', st⟩ := X.thenCaughtThrough q (g := F0 m pc ls rest) rfl (Steps.refl _) (by rw [hT]; exact hcell) (by rw [hv]; rfl) (by obtain ⟨k9, h9, -⟩ := Vm.findClass_spec hcl; exact ⟨k9, h9⟩) pre x suf hsplit
    (fun z hz => by
      rcases hpass z hz with h | ⟨hz0, nm, hl1, hn1⟩
      · exact Or.inl h
      · obtain ⟨c6, hc6, hcl6⟩ := Cond.classLink_spec hown hl1 e.platform hpl
        obtain ⟨a8, b8, h1, h2, h3⟩ := hn1
        cases Option.some.inj (h1.symm.trans hcl)
        cases Option.some.inj (h2.symm.trans hc6)
        exact Or.inr ⟨hz0, _, hcl6, h3⟩) hx (Or.inr ⟨h0, c4, hcl5, hasg⟩)
  obtain ⟨t, a1, b1⟩ := kk (T.setVm vm') hT X'
  exact ⟨t, st.trans a1, b1⟩
end Rows
section Ends
variable {p : Program} {l : Launch} {e : Env} {R : Room} {s : State} {m : MethodId} {args : Array Value} {below : List Frame} {meth : Method} {c : Code} {H : Heap} {locs : List Loc} {cells slots : Nat} {Q : State → Prop}
variable {mc ms : Nat} {free : Addr → Prop} {A0 A1 : Nat → Prop} {H0 : Heap} {a : Array Value} {ls : Array Slot} {st0 rest : List Value}
variable {Qc : Array Value → State → Outcome → State → Prop} {XC : String → State → State → Prop}
/-- what a body that may throw owes at its end -/
def vx_MQ (below : List Frame) (Qc : Array Value → State → Outcome → State → Prop) (XC : String → State → State → Prop) (a : Array Value) (s : State) (mc ms : Nat) (free : Addr → Prop) : State → Prop := fun t =>
  ∃ o, t.status = .running ∧ Ended t below o ∧ vx_Q Qc XC mc ms free a s o t
theorem vx_ret {g : JFrame} {mc ms : Nat} (k : W p l e R s m args below meth c H locs cells slots (MQ below Qc args s mc ms free) g) : W p l e R s m args below meth c H locs cells slots (vx_MQ below Qc XC args s mc ms free) g := by
  intro T hT X
  obtain ⟨t, a1, o, b1, b2, b3, b4⟩ := k T hT X
  exact ⟨t, a1, o, b1, b2, Or.inl ⟨b3, b4⟩⟩
/-- not caught here: it goes on to the caller -/
theorem vx_widen {g : JFrame} {q : Addr} {k n : Nat} (h1 : cells ≤ k) (h2 : slots ≤ n) (kk : vx_W p l e R s m args below meth c H locs k n Q g q) : vx_W p l e R s m args below meth c H locs cells slots Q g q := fun T hT X => kk T hT (stand_widen X h1 h2)
theorem vx_out {pc : Nat} {E : String} {ce : Cell} {q : Addr} {mc ms : Nat} (hout : ∀ x ∈ c.exceptionTable.toList, covers x pc = false) (hlocks : meth.locks = false) (hcell : H[q]? = some ce) (hv : ce.vm = .none) (hcl : s.vm.findClass E = some ce.cls)
    (hx : ∀ t : State, t.heap = H → s.vm.Alike t.vm → XC E s t) (hf : ∀ z ∈ locs, free z.base) (hc : cells ≤ mc) (hs : slots ≤ ms) :
    vx_W p l e R s m args below meth c H locs cells slots (vx_MQ below Qc XC args s mc ms free) (F0 m pc ls rest) q := by
  intro T hT X
  obtain ⟨st1, hrun, hend, hW, hsm⟩ := X.leaveThrown q (g := F0 m pc ls rest) rfl rfl rfl hout hlocks
  have hcell9 : (T.setFrames (.throwing q :: below)).heap[q]? = some ce := by
    show T.heap[q]? = some ce
    rw [hT]; exact hcell
  exact ⟨_, st1, .threw q, hrun, hend, Or.inr ⟨q, rfl, E, ce, locs, hx _ hT hW.alike, hcell9, hv, hcl, hW, hsm.mono hc hs, hf⟩⟩
theorem vx_frame {U : State} {k n : Nat} (h : s.sameButNew ({ U with vm := s.vm } : State) locs k n) : s.heap.size ≤ U.heap.size ∧ ∀ q : Nat, q < s.heap.size → (∀ z ∈ locs, z.base ≠ q) → U.heap[q]? = s.heap[q]? := by
  obtain ⟨-, h2, -, -, -, h6⟩ := h
  refine ⟨h2, fun q hq hz => ?_⟩
  obtain ⟨c9, e1, e2, e3, e4⟩ := h6 q _ (Array.getElem?_eq_getElem hq)
  have hs : c9.slots = (s.heap[q]).slots := Array.ext_getElem? fun i => e4 i fun hm => hz _ hm rfl
  have h9 : c9 = s.heap[q] := by
    rw [hs] at e2
    exact e2
  have e5 : U.heap[q]? = some c9 := e1
  rw [e5, h9, Array.getElem?_eq_getElem hq]
/-- the words of a throw but the four that speak of the heap -/
def vx_no (w : Cond) : Bool := decide (w ≠ .isRef (.static Bundle.tN "UNASSIGNED_STACK" Bundle.steD)) && decide (w ≠ .isRef (.static Bundle.tN "SUPPRESSED_SENTINEL" Bundle.listD)) && decide (w ≠ .laysStatic Bundle.tN "UNASSIGNED_STACK" Bundle.steD) && decide (w ≠ .laysStatic Bundle.tN "SUPPRESSED_SENTINEL" Bundle.listD)
def vx_at0 (own : String) (ic : Nat) (X : String) (names : List String) : List Cond := (Bundle.ownAtoms0 own ic X names).filter vx_no
def vx_atS (own : String) (ic : Nat) (X : String) (names : List String) : List Cond := (Bundle.ownAtoms own ic X names).filter vx_no
/-- a word that the tables alone decide, or a good one -/
def vx_ot (w : Cond) : Bool := w.onTables || goodWord w
theorem vx_ot_at {args a' : Array Value} {s U : State} {w : Cond} (hW : s.WarmedH U.vm) (hvm : s.vm = U.vm) (hg : vx_ot w = true) (h : w.before args s = true) : w.before a' U = true := by
  simp only [vx_ot, Bool.or_eq_true] at hg
  rcases hg with hg | hg
  · exact va_tabs hg hvm h
  · exact word_at hW (good_of_word hg) h
/-- a list's words: the good ones out of the method's own list, the others by premises of their own -/
theorem vx_hat {args : Array Value} {s : State} {L B : List Cond} (h1 : ∀ w ∈ L.filter goodWord, w.before args s = true) (h2 : ∀ w ∈ L.filter (fun w => !goodWord w), w ∈ B) (h3 : ∀ w ∈ B, w.before args s = true) : ∀ w ∈ L, w.before args s = true := by
  intro w hw
  by_cases g : goodWord w = true
  · exact h1 w (List.mem_filter.mpr ⟨hw, g⟩)
  · refine h3 w (h2 w (List.mem_filter.mpr ⟨hw, ?_⟩))
    show (!goodWord w) = true
    cases hgw : goodWord w
    · rfl
    · exact absurd hgw g
theorem vx_c {args : Array Value} {s : State} {w : Cond} {B : List Cond} (h : w.before args s = true) (t : ∀ w ∈ B, w.before args s = true) : ∀ w' ∈ w :: B, w'.before args s = true := fun w' h' => (List.mem_cons.mp h').elim (fun e => by rw [e]; exact h) (t w')
theorem vx_n {args : Array Value} {s : State} : ∀ w ∈ ([] : List Cond), w.before args s = true := fun _ h => nomatch h
theorem vx_own {args : Array Value} {s : State} {L : List Cond} (h1 : ∀ w ∈ L.filter vx_no, w.before args s = true)
    (hU : (Cond.isRef (.static Bundle.tN "UNASSIGNED_STACK" Bundle.steD)).before args s = true) (hN : (Cond.isRef (.static Bundle.tN "SUPPRESSED_SENTINEL" Bundle.listD)).before args s = true)
    (lU : (Cond.laysStatic Bundle.tN "UNASSIGNED_STACK" Bundle.steD).before args s = true) (lN : (Cond.laysStatic Bundle.tN "SUPPRESSED_SENTINEL" Bundle.listD).before args s = true) : ∀ w ∈ L, w.before args s = true := by
  intro w hw
  by_cases e1 : w = .isRef (.static Bundle.tN "UNASSIGNED_STACK" Bundle.steD)
  · rw [e1]; exact hU
  · by_cases e2 : w = .isRef (.static Bundle.tN "SUPPRESSED_SENTINEL" Bundle.listD)
    · rw [e2]; exact hN
    · by_cases e3 : w = .laysStatic Bundle.tN "UNASSIGNED_STACK" Bundle.steD
      · rw [e3]; exact lU
      · by_cases e4 : w = .laysStatic Bundle.tN "SUPPRESSED_SENTINEL" Bundle.listD
        · rw [e4]; exact lN
        · exact h1 w (List.mem_filter.mpr ⟨hw, by unfold vx_no; rw [decide_eq_true e1, decide_eq_true e2, decide_eq_true e3, decide_eq_true e4]; rfl⟩)
/-- where a static field lies, its class's statics cell in H -/
def vx_L (C n d : String) (A : Nat → Prop) (U : State) (H : Heap) : Prop := ∃ (c : ClassId) (k : Class) (i : Nat) (f : Field) (a : Nat) (cell : Cell), U.vm.findClass C = some c ∧ U.fieldFound? C n d = some (c, k, i, f) ∧ f.isStatic = true ∧ k.statics = some a ∧ H[a]? = some cell ∧ cell.vm.isStatics = true ∧ cell.cls = c ∧ f.slot < cell.slots.size ∧ k.staticTypes[f.slot]? = some f.type ∧ ¬ A a
theorem vx_L.moved {C n d : String} {A : Nat → Prop} {u U : State} {H : Heap} (hvm : u.vm.Alike U.vm) (h : vx_L C n d A u H) : vx_L C n d A U H := by
  obtain ⟨c, k, i, f, a, cell, h1, h2, h3, h4, h5, h6, h7, h8, h9, h10⟩ := h
  obtain ⟨k', hi', he⟩ := State.fieldFound?_setVm hvm h2
  exact ⟨c, k', i, f, a, cell, by rw [hvm.findClass]; exact h1, hi', h3, by rw [he]; exact h4, h5, h6, h7, h8, by rw [he]; exact h9, h10⟩
theorem vx_L.kept {C n d : String} {A : Nat → Prop} {U : State} {H H1 : Heap} (h : vx_L C n d A U H) (hq : ∀ a : Nat, a < H.size → ¬ A a → H1[a]? = H[a]?) : vx_L C n d A U H1 := by
  obtain ⟨c, k, i, f, a, cell, h1, h2, h3, h4, h5, h6, h7, h8, h9, h10⟩ := h
  exact ⟨c, k, i, f, a, cell, h1, h2, h3, h4, by rw [hq a (Array.getElem?_eq_some_iff.mp h5).1 h10]; exact h5, h6, h7, h8, h9, h10⟩
theorem vx_L.narrow {C n d : String} {A B : Nat → Prop} {U : State} {H : Heap} (h : vx_L C n d A U H) (hAB : ∀ q, B q → A q) : vx_L C n d B U H := by
  obtain ⟨c, k, i, f, a, cell, h1, h2, h3, h4, h5, h6, h7, h8, h9, h10⟩ := h
  exact ⟨c, k, i, f, a, cell, h1, h2, h3, h4, h5, h6, h7, h8, h9, fun z => h10 (hAB _ z)⟩
theorem vx_L.word {C n d : String} {A : Nat → Prop} {s : State} {args : Array Value} (h : vx_L C n d A s s.heap) : (Cond.laysStatic C n d).before args s = true := by
  obtain ⟨c, k, i, f, a, cell, h1, h2, h3, h4, h5, h6, h7, h8, h9, -⟩ := h
  show (Cond.laysStatic C n d).holds args s none s [] = true
  exact Cond.laysStatic_of h1 h2 h3 h4 h5 h6 h7 h8 h9
/-- .. and what it holds: null or some reference -/
def vx_Zq (C n d : String) (A : Nat → Prop) (U : State) (H : Heap) : Prop := va_Zq C n d A U H ∧ vx_L C n d A U H
theorem vx_Zq.moved {C n d : String} {A : Nat → Prop} {u U : State} {H : Heap} (hvm : u.vm.Alike U.vm) (h : vx_Zq C n d A u H) : vx_Zq C n d A U H := ⟨va_Zq.moved hvm h.1, vx_L.moved hvm h.2⟩
theorem vx_Zq.kept {C n d : String} {A : Nat → Prop} {U : State} {H H1 : Heap} (h : vx_Zq C n d A U H) (hq : ∀ a : Nat, a < H.size → ¬ A a → H1[a]? = H[a]?) : vx_Zq C n d A U H1 := ⟨va_Zq.kept h.1 hq, vx_L.kept h.2 hq⟩
theorem vx_Zq.narrow {C n d : String} {A B : Nat → Prop} {U : State} {H : Heap} (h : vx_Zq C n d A U H) (hAB : ∀ q, B q → A q) : vx_Zq C n d B U H := ⟨va_Zq.narrow h.1 hAB, vx_L.narrow h.2 hAB⟩
theorem vx_Zqof {args : Array Value} {s : State} {C n d : String} {A : Nat → Prop} (hl : (Cond.laysStatic C n d).before args s = true) (hini : (Cond.initialized C).before args s = true) (h : (Cond.isRef (.static C n d)).before args s = true) (hA : ∀ a : Nat, a < s.heap.size → ¬ A a) : vx_Zq C n d A s s.heap := by
  refine ⟨va_Zqof hl hini h hA, ?_⟩
  obtain ⟨c, k, i, f, a, cell, h1, h2, h3, h4, h5, h6, h7, h8, h9⟩ := Cond.laysStatic_spec hl
  exact ⟨c, k, i, f, a, cell, h1, h2, h3, h4, h5, h6, h7, h8, h9, hA a (Array.getElem?_eq_some_iff.mp h5).1⟩
theorem vx_isRef {C n d : String} {v : Value} {A : Nat → Prop} {s : State} {args : Array Value} (h : va_Z C n d v A s s.heap) (hv : v.isRef = true) : (Cond.isRef (.static C n d)).before args s = true := by
  obtain ⟨cf, kf, fi, f, a, cell, h1, h2, h3, h4, h5, h6, h7, -⟩ := h
  have he : (Term.static C n d).eval args s none [] s = some v := by
    simp [Term.eval, State.fieldNamed?, h1, h2, h4, h5, h6, h7]
  simp only [Cond.before, Cond.holds, Cond.value, he]
  cases v <;> simp_all [Value.isRef]
theorem vx_isRefq {C n d : String} {A : Nat → Prop} {s : State} {args : Array Value} (h : va_Zq C n d A s s.heap) : (Cond.isRef (.static C n d)).before args s = true := by
  rcases h with h | ⟨t, h⟩
  · exact vx_isRef h rfl
  · exact vx_isRef h rfl
/-- the same frame, seen from here: as if the method were called anew in this heap -/
theorem vx_rebase {T : State} (X : Stand p l e R s m args below meth c T locs cells slots) {R' : Room} (hf : R'.frames ≤ R.frames) (hl : R'.locals ≤ R.locals) (hc : cells + R'.cells ≤ R.cells) (hs : slots + R'.slots ≤ R.slots) :
    Stand p l e R' ((T.setVm s.vm).setFrames (.invoking m args :: below)) m args below meth c T [] 0 0 := by
  have htop : (T.setVm s.vm).topJava?.isSome := X.here.top
  have hF : ((T.setVm s.vm).setFrames (.invoking m args :: below)).frames = .invoking m args :: below := State.frames_setFrames _ (State.cur_lt_of_top htop)
  obtain ⟨g₀, hg0⟩ := Option.isSome_iff_exists.mp htop
  obtain ⟨r, hr⟩ := State.topJava?_eq_some.mp hg0
  have hl9 : e.platform.stackLimits (T.setVm s.vm).me = e.platform.stackLimits s.me := X.limits
  have hb9 : (T.setVm s.vm).me.stackBytes = s.me.stackBytes := X.bytes
  refine ⟨X.admits, X.cas, X.clock, hF, ?_, X.hears, X.method, X.code, X.here, X.tail, X.warmed, ?_, ?_, ?_⟩
  · have h := X.room
    have hU : ((T.setVm s.vm).setFrames (.invoking m args :: below)).localsInUse = s.localsInUse := by
      rw [State.localsInUse_invoking hF (meth := meth) (c := c) X.method X.code, State.localsInUse_invoking X.frames X.method X.code]
    simp only [State.hasRoom, Bool.and_eq_true, decide_eq_true_eq] at h ⊢
    obtain ⟨⟨⟨⟨h1, h2, h3, h4, h5, h6⟩, h7⟩, h8⟩, h9⟩ := h
    rw [X.frames, List.length_cons] at h2 h3
    have q1 := X.heapSize
    have q2 := X.used
    simp only [hF, hU, List.length_cons, State.stackLimits_setFrames, State.stackBytes_setFrames, hl9, hb9]
    refine ⟨⟨⟨⟨by omega, by omega, by omega, by omega, by omega, h6⟩, ?_⟩, ?_⟩, X.book⟩
    · show T.heap.size + R'.cells ≤ e.platform.maxCells
      omega
    · show T.slotsUsed + R'.slots ≤ e.platform.maxSlots
      omega
  · rw [State.stackLimits_setFrames]; rfl
  · rw [State.stackBytes_setFrames]; rfl
  · refine ⟨?_, Nat.le_refl _, Nat.le_refl _, ?_, ?_, fun a c9 h9 => ⟨c9, h9, rfl, rfl, fun _ _ => rfl⟩⟩
    · obtain ⟨t, ht, -⟩ := State.frames_cons hr
      show T.setVm s.vm = { ((T.setVm s.vm).setFrames (.invoking m args :: below)).setFrames (T.setVm s.vm).frames with heap := T.heap, slotsUsed := T.slotsUsed }
      rw [State.setFrames_setFrames, State.setFrames_self ht]
      rfl
    · show T.slotsUsed = T.slotsUsed + ((T.heap.toList.drop T.heap.size).map (·.slots.size)).sum
      rw [List.drop_eq_nil_of_le (Nat.le_of_eq Array.length_toList)]
      rfl
    · show ((T.heap.toList.drop T.heap.size).map (·.slots.size)).sum ≤ 0
      rw [List.drop_eq_nil_of_le (Nat.le_of_eq Array.length_toList)]
      exact Nat.le_refl _
/-- 'throw new E()': new; dup; invokespecial; athrow -/
theorem vx_throw0 {cc : ByteArray} {pc : Nat} (hexec : p.tables.exec = Jvm.exec) (hb : c.code = cc) (hl : l.stackTraces = false) {own cls : String} {names : List String} {ik ic mc ms : Nat} {A : Nat → Prop}
    (hown : s.vm.findClass own = some m.cls) (hcls : Bundle.fit cls = true) (hnames : ∀ n ∈ names, Bundle.fit n = true)
    (hk : (Cond.classLink own ik cls).before args s = true) (hini : (Cond.initialized cls).before args s = true) (hat : ∀ w ∈ vx_at0 own ic cls names, w.before args s = true)
    (hgood : ∀ w ∈ Cond.classLink own ik cls :: Cond.initialized cls :: vx_at0 own ic cls names, vx_ot w = true)
    (hU : vx_Zq Bundle.tN "UNASSIGNED_STACK" Bundle.steD A s s.heap) (hN : vx_Zq Bundle.tN "SUPPRESSED_SENTINEL" Bundle.listD A s s.heap) (hS : va_S A s.heap H locs) (hsize : ls.size = c.maxLocals)
    (d0 : decode cc pc = .ok (.new ik, 3)) (d3 : decode cc (pc + 3) = .ok (.dup, 1)) (d4 : decode cc (pc + 4) = .ok (.invokespecial ic, 3)) (d7 : decode cc (pc + 7) = .ok (.athrow, 1))
    (hout : ∀ x ∈ c.exceptionTable.toList, covers x (pc + 7) = false)
    (hRframes : names.length + 3 < R.frames) (hRlocals : (rest.map fun v => v.category).sum + (13 * (names.length + 1) + 42) ≤ R.locals) (hRcells : cells + 1 ≤ R.cells) (hRslots : slots + 6 ≤ R.slots) (hlocks : meth.locks = false)
    (hx : ∀ t : State, s.vm.Alike t.vm → H.size ≤ t.heap.size → (∀ q : Nat, q < H.size → t.heap[q]? = H[q]?) → XC cls s t)
    (hf : ∀ z ∈ locs, free z.base) (hc : cells + 1 ≤ mc) (hs : slots + 6 ≤ ms) :
    W p l e R s m args below meth c H locs cells slots (vx_MQ below Qc XC args s mc ms free) (F0 m pc ls rest) := by
  intro T hT X
  have htr : e.platform.stackTraces = false := (show e.platform.stackTraces = l.stackTraces by rw [X.admits.platform]).trans hl
  have Y := vx_rebase X (R' := { frames := R.frames, locals := R.locals, cells := 1, slots := 6 }) (Nat.le_refl _) (Nat.le_refl _) hRcells hRslots
  obtain ⟨s', hA⟩ : ∃ z, z = (T.setVm s.vm).setFrames (.invoking m args :: below) := ⟨_, rfl⟩
  rw [← hA] at Y
  have hvm : s'.vm = s.vm := by rw [hA]; rfl
  have hhp : s'.heap = H := by rw [hA]; exact hT
  have hW0 : s.WarmedH s'.vm := by rw [hvm]; exact State.WarmedH.refl s
  have hat' : ∀ w ∈ vx_at0 own ic cls names, w.before args s' = true := fun w hw => vx_ot_at hW0 hvm.symm (hgood w (List.mem_cons_of_mem _ (List.mem_cons_of_mem _ hw))) (hat w hw)
  have hk' : (Cond.classLink own ik cls).before args s' = true := vx_ot_at hW0 hvm.symm (hgood _ List.mem_cons_self) hk
  have hini' : (Cond.initialized cls).before args s' = true := vx_ot_at hW0 hvm.symm (hgood _ (List.mem_cons_of_mem _ List.mem_cons_self)) hini
  have hU' : vx_Zq Bundle.tN "UNASSIGNED_STACK" Bundle.steD A s' s'.heap := by rw [hhp]; exact vx_Zq.moved hW0.alike (hU.kept hS.2.1)
  have hN' : vx_Zq Bundle.tN "SUPPRESSED_SENTINEL" Bundle.listD A s' s'.heap := by rw [hhp]; exact vx_Zq.moved hW0.alike (hN.kept hS.2.1)
  have h : ∀ w ∈ Bundle.ownAtoms0 own ic cls names, w.before args s' = true := vx_own hat' (vx_isRefq hU'.1) (vx_isRefq hN'.1) hU'.2.word hN'.2.word
  have hown' : s'.vm.findClass own = some m.cls := by rw [hvm]; exact hown
  have hins : (Cond.instantiable cls 6).before args s' = true := h _ (by simp [Bundle.ownAtoms0])
  obtain ⟨vm₁, cX, kX, hfX, hkX, -, -, X₁, st1⟩ := Y.newCold hexec (own := own) (C := cls) (index := ik) (n := 6) hown' hk' hins hini'
    (g := F0 m pc ls rest) rfl (by rw [hb]; exact d0) (Nat.le_refl _) (Nat.le_refl _)
  generalize hT1 : (T.setVm vm₁).pushCell { cls := cX, slots := kX.instanceTypes.map defaultValue, vm := .none } = T1 at X₁ st1
  have hcat : (Value.ref T.heap.size).category = 1 := rfl
  have hcellA : T1.heap[T.heap.size]? = some (freshCell cX kX) := by rw [← hT1]; exact State.heap_pushCell_size _ _
  have d3' : decode c.code (pc + 3) = .ok (.dup, 1) := by rw [hb]; exact d3
  obtain ⟨U, hsteps, hrun, hend, hW, hsame, ce, hce, hO⟩ := X₁.ctorThrow0 hexec htr (own := own) (cls := cls) (names := names) (ic := ic) hown' hcls hnames h (fun x hx => nomatch hx) hfX hkX hcellA (by rw [hhp, hT]; exact Nat.le_refl _)
    (g := { method := m, pc := pc + 4, locals := ls, stack := .ref T.heap.size :: .ref T.heap.size :: rest, locked := none }) rfl hsize rfl rfl (rest := rest) rfl
    (by rw [hb]; exact d4) (by rw [hb]; exact d7) hout hRframes (by simp only [List.map_cons, List.sum_cons, hcat]; omega) hlocks
  obtain ⟨f1, f2⟩ := vx_frame hsame
  rw [hhp] at f1 f2
  have hWs : s.WarmedH U.vm := State.WarmedH.trans hW0 hW
  have hcl : s.vm.findClass cls = some ce.cls := by
    have h9 := hO.cls
    rw [hvm] at h9
    exact h9
  have hall : s.sameButNew ({ U with vm := s.vm } : State) locs mc ms := by
    subst hA
    obtain ⟨e1, e2⟩ := hsame
    rw [State.setFrames_setFrames] at e1
    have h2 : (T.setVm s.vm).sameButNew ({ U with vm := s.vm } : State) [] (0 + 1) (0 + 6) := ⟨e1, e2⟩
    have h3 := X.same.trans h2
    rw [List.append_nil] at h3
    exact h3.mono hc hs
  refine ⟨U, ?_, .threw T.heap.size, hrun, hend, Or.inr ⟨T.heap.size, rfl, cls, ce, locs, hx U hWs.alike f1 (fun q hq => f2 q hq (fun z hz => nomatch hz)), hce, hO.vm, hcl, hWs, hall, hf⟩⟩
  refine st1 _ ?_
  show Steps p.tables e below (T1.setTop { method := m, pc := pc + 3, locals := ls, stack := .ref T.heap.size :: rest, locked := none }) _
  jvm_step X₁.here [X₁.here.top, hexec, d3', Value.category]
  exact hsteps
/-- 'throw new E("text")': new; dup; ldc; invokespecial; athrow -/
theorem vx_throwS {cc : ByteArray} {pc : Nat} (hexec : p.tables.exec = Jvm.exec) (hb : c.code = cc) (hl : l.stackTraces = false) {own cls text : String} {names : List String} {ik is ic mc ms sa : Nat} {A : Nat → Prop}
    (hown : s.vm.findClass own = some m.cls) (hcls : Bundle.fit cls = true) (hnames : ∀ n ∈ names, Bundle.fit n = true)
    (hk : (Cond.classLink own ik cls).before args s = true) (hini : (Cond.initialized cls).before args s = true) (hstr : vk_R own is text sa s) (hat : ∀ w ∈ vx_atS own ic cls names, w.before args s = true)
    (hgood : ∀ w ∈ Cond.classLink own ik cls :: Cond.initialized cls :: vx_atS own ic cls names, vx_ot w = true)
    (hU : vx_Zq Bundle.tN "UNASSIGNED_STACK" Bundle.steD A s s.heap) (hN : vx_Zq Bundle.tN "SUPPRESSED_SENTINEL" Bundle.listD A s s.heap) (hS : va_S A s.heap H locs) (hsize : ls.size = c.maxLocals)
    (d0 : decode cc pc = .ok (.new ik, 3)) (d3 : decode cc (pc + 3) = .ok (.dup, 1)) (d4 : decode cc (pc + 4) = .ok (.ldc is, 2)) (d6 : decode cc (pc + 6) = .ok (.invokespecial ic, 3)) (d9 : decode cc (pc + 9) = .ok (.athrow, 1))
    (hout : ∀ x ∈ c.exceptionTable.toList, covers x (pc + 9) = false)
    (hRframes : names.length + 3 < R.frames) (hRlocals : (rest.map fun v => v.category).sum + (13 * (names.length + 1) + 43) ≤ R.locals) (hRcells : cells + 1 ≤ R.cells) (hRslots : slots + 6 ≤ R.slots) (hlocks : meth.locks = false)
    (hx : ∀ t : State, s.vm.Alike t.vm → H.size ≤ t.heap.size → (∀ q : Nat, q < H.size → t.heap[q]? = H[q]?) → XC cls s t)
    (hf : ∀ z ∈ locs, free z.base) (hc : cells + 1 ≤ mc) (hs : slots + 6 ≤ ms) :
    W p l e R s m args below meth c H locs cells slots (vx_MQ below Qc XC args s mc ms free) (F0 m pc ls rest) := by
  intro T hT X
  have htr : e.platform.stackTraces = false := (show e.platform.stackTraces = l.stackTraces by rw [X.admits.platform]).trans hl
  have Y := vx_rebase X (R' := { frames := R.frames, locals := R.locals, cells := 1, slots := 6 }) (Nat.le_refl _) (Nat.le_refl _) hRcells hRslots
  obtain ⟨s', hA⟩ : ∃ z, z = (T.setVm s.vm).setFrames (.invoking m args :: below) := ⟨_, rfl⟩
  rw [← hA] at Y
  have hvm : s'.vm = s.vm := by rw [hA]; rfl
  have hhp : s'.heap = H := by rw [hA]; exact hT
  have hW0 : s.WarmedH s'.vm := by rw [hvm]; exact State.WarmedH.refl s
  have hat' : ∀ w ∈ vx_atS own ic cls names, w.before args s' = true := fun w hw => vx_ot_at hW0 hvm.symm (hgood w (List.mem_cons_of_mem _ (List.mem_cons_of_mem _ hw))) (hat w hw)
  have hk' : (Cond.classLink own ik cls).before args s' = true := vx_ot_at hW0 hvm.symm (hgood _ List.mem_cons_self) hk
  have hini' : (Cond.initialized cls).before args s' = true := vx_ot_at hW0 hvm.symm (hgood _ (List.mem_cons_of_mem _ List.mem_cons_self)) hini
  have hU' : vx_Zq Bundle.tN "UNASSIGNED_STACK" Bundle.steD A s' s'.heap := by rw [hhp]; exact vx_Zq.moved hW0.alike (hU.kept hS.2.1)
  have hN' : vx_Zq Bundle.tN "SUPPRESSED_SENTINEL" Bundle.listD A s' s'.heap := by rw [hhp]; exact vx_Zq.moved hW0.alike (hN.kept hS.2.1)
  have h : ∀ w ∈ Bundle.ownAtoms own ic cls names, w.before args s' = true := vx_own hat' (vx_isRefq hU'.1) (vx_isRefq hN'.1) hU'.2.word hN'.2.word
  have hown' : s'.vm.findClass own = some m.cls := by rw [hvm]; exact hown
  have hins : (Cond.instantiable cls 6).before args s' = true := h _ (by simp [Bundle.ownAtoms])
  obtain ⟨vm₁, cX, kX, hfX, hkX, -, -, X₁, st1⟩ := Y.newCold hexec (own := own) (C := cls) (index := ik) (n := 6) hown' hk' hins hini'
    (g := F0 m pc ls rest) rfl (by rw [hb]; exact d0) (Nat.le_refl _) (Nat.le_refl _)
  generalize hT1 : (T.setVm vm₁).pushCell { cls := cX, slots := kX.instanceTypes.map defaultValue, vm := .none } = T1 at X₁ st1
  have hcat : (Value.ref T.heap.size).category = 1 := rfl
  have hcellA : T1.heap[T.heap.size]? = some (freshCell cX kX) := by rw [← hT1]; exact State.heap_pushCell_size _ _
  have d3' : decode c.code (pc + 3) = .ok (.dup, 1) := by rw [hb]; exact d3
  have d4' : decode c.code (pc + 4) = .ok (.ldc is, 2) := by rw [hb]; exact d4
  have hstr' : vk_R own is text sa s' := vk_R.warm hW0 hstr
  obtain ⟨U, hsteps, hrun, hend, hW, hsame, ce, hce, hO⟩ := X₁.ctorThrowS hexec htr (own := own) (cls := cls) (names := names) (ic := ic) hown' hcls hnames h (fun x hx => nomatch hx) hfX hkX hcellA (by rw [hhp, hT]; exact Nat.le_refl _) (msg := .ref sa) rfl
    (g := { method := m, pc := pc + 6, locals := ls, stack := .ref sa :: .ref T.heap.size :: .ref T.heap.size :: rest, locked := none }) rfl hsize rfl rfl (rest := rest) rfl
    (by rw [hb]; exact d6) (by rw [hb]; exact d9) hout hRframes (by simp only [List.map_cons, List.sum_cons, hcat]; omega) hlocks
  obtain ⟨f1, f2⟩ := vx_frame hsame
  rw [hhp] at f1 f2
  have hWs : s.WarmedH U.vm := State.WarmedH.trans hW0 hW
  have hcl : s.vm.findClass cls = some ce.cls := by
    have h9 := hO.cls
    rw [hvm] at h9
    exact h9
  have hall : s.sameButNew ({ U with vm := s.vm } : State) locs mc ms := by
    subst hA
    obtain ⟨e1, e2⟩ := hsame
    rw [State.setFrames_setFrames] at e1
    have h2 : (T.setVm s.vm).sameButNew ({ U with vm := s.vm } : State) [] (0 + 1) (0 + 6) := ⟨e1, e2⟩
    have h3 := X.same.trans h2
    rw [List.append_nil] at h3
    exact h3.mono hc hs
  refine ⟨U, ?_, .threw T.heap.size, hrun, hend, Or.inr ⟨T.heap.size, rfl, cls, ce, locs, hx U hWs.alike f1 (fun q hq => f2 q hq (fun z hz => nomatch hz)), hce, hO.vm, hcl, hWs, hall, hf⟩⟩
  refine st1 _ ?_
  show Steps p.tables e below (T1.setTop { method := m, pc := pc + 3, locals := ls, stack := .ref T.heap.size :: rest, locked := none }) _
  jvm_step X₁.here [X₁.here.top, hexec, d3', Value.category]
  exact X₁.ldcString hexec (own := own) (text := text) (index := is) (a := sa) hown' hstr'.1 hstr'.2
    (g := { method := m, pc := pc + 4, locals := ls, stack := .ref T.heap.size :: .ref T.heap.size :: rest, locked := none }) rfl d4' _ hsteps
/-- 'throw new E("text")', the text by a wide index -/
theorem vx_throwSW {cc : ByteArray} {pc : Nat} (hexec : p.tables.exec = Jvm.exec) (hb : c.code = cc) (hl : l.stackTraces = false) {own cls text : String} {names : List String} {ik is ic mc ms sa : Nat} {A : Nat → Prop}
    (hown : s.vm.findClass own = some m.cls) (hcls : Bundle.fit cls = true) (hnames : ∀ n ∈ names, Bundle.fit n = true)
    (hk : (Cond.classLink own ik cls).before args s = true) (hini : (Cond.initialized cls).before args s = true) (hstr : vk_R own is text sa s) (hat : ∀ w ∈ vx_atS own ic cls names, w.before args s = true)
    (hgood : ∀ w ∈ Cond.classLink own ik cls :: Cond.initialized cls :: vx_atS own ic cls names, vx_ot w = true)
    (hU : vx_Zq Bundle.tN "UNASSIGNED_STACK" Bundle.steD A s s.heap) (hN : vx_Zq Bundle.tN "SUPPRESSED_SENTINEL" Bundle.listD A s s.heap) (hS : va_S A s.heap H locs) (hsize : ls.size = c.maxLocals)
    (d0 : decode cc pc = .ok (.new ik, 3)) (d3 : decode cc (pc + 3) = .ok (.dup, 1)) (d4 : decode cc (pc + 4) = .ok (.ldc_w is, 3)) (d7 : decode cc (pc + 7) = .ok (.invokespecial ic, 3)) (d10 : decode cc (pc + 10) = .ok (.athrow, 1))
    (hout : ∀ x ∈ c.exceptionTable.toList, covers x (pc + 10) = false)
    (hRframes : names.length + 3 < R.frames) (hRlocals : (rest.map fun v => v.category).sum + (13 * (names.length + 1) + 43) ≤ R.locals) (hRcells : cells + 1 ≤ R.cells) (hRslots : slots + 6 ≤ R.slots) (hlocks : meth.locks = false)
    (hx : ∀ t : State, s.vm.Alike t.vm → H.size ≤ t.heap.size → (∀ q : Nat, q < H.size → t.heap[q]? = H[q]?) → XC cls s t)
    (hf : ∀ z ∈ locs, free z.base) (hc : cells + 1 ≤ mc) (hs : slots + 6 ≤ ms) :
    W p l e R s m args below meth c H locs cells slots (vx_MQ below Qc XC args s mc ms free) (F0 m pc ls rest) := by
  intro T hT X
  have htr : e.platform.stackTraces = false := (show e.platform.stackTraces = l.stackTraces by rw [X.admits.platform]).trans hl
  have Y := vx_rebase X (R' := { frames := R.frames, locals := R.locals, cells := 1, slots := 6 }) (Nat.le_refl _) (Nat.le_refl _) hRcells hRslots
  obtain ⟨s', hA⟩ : ∃ z, z = (T.setVm s.vm).setFrames (.invoking m args :: below) := ⟨_, rfl⟩
  rw [← hA] at Y
  have hvm : s'.vm = s.vm := by rw [hA]; rfl
  have hhp : s'.heap = H := by rw [hA]; exact hT
  have hW0 : s.WarmedH s'.vm := by rw [hvm]; exact State.WarmedH.refl s
  have hat' : ∀ w ∈ vx_atS own ic cls names, w.before args s' = true := fun w hw => vx_ot_at hW0 hvm.symm (hgood w (List.mem_cons_of_mem _ (List.mem_cons_of_mem _ hw))) (hat w hw)
  have hk' : (Cond.classLink own ik cls).before args s' = true := vx_ot_at hW0 hvm.symm (hgood _ List.mem_cons_self) hk
  have hini' : (Cond.initialized cls).before args s' = true := vx_ot_at hW0 hvm.symm (hgood _ (List.mem_cons_of_mem _ List.mem_cons_self)) hini
  have hU' : vx_Zq Bundle.tN "UNASSIGNED_STACK" Bundle.steD A s' s'.heap := by rw [hhp]; exact vx_Zq.moved hW0.alike (hU.kept hS.2.1)
  have hN' : vx_Zq Bundle.tN "SUPPRESSED_SENTINEL" Bundle.listD A s' s'.heap := by rw [hhp]; exact vx_Zq.moved hW0.alike (hN.kept hS.2.1)
  have h : ∀ w ∈ Bundle.ownAtoms own ic cls names, w.before args s' = true := vx_own hat' (vx_isRefq hU'.1) (vx_isRefq hN'.1) hU'.2.word hN'.2.word
  have hown' : s'.vm.findClass own = some m.cls := by rw [hvm]; exact hown
  have hins : (Cond.instantiable cls 6).before args s' = true := h _ (by simp [Bundle.ownAtoms])
  obtain ⟨vm₁, cX, kX, hfX, hkX, -, -, X₁, st1⟩ := Y.newCold hexec (own := own) (C := cls) (index := ik) (n := 6) hown' hk' hins hini'
    (g := F0 m pc ls rest) rfl (by rw [hb]; exact d0) (Nat.le_refl _) (Nat.le_refl _)
  generalize hT1 : (T.setVm vm₁).pushCell { cls := cX, slots := kX.instanceTypes.map defaultValue, vm := .none } = T1 at X₁ st1
  have hcat : (Value.ref T.heap.size).category = 1 := rfl
  have hcellA : T1.heap[T.heap.size]? = some (freshCell cX kX) := by rw [← hT1]; exact State.heap_pushCell_size _ _
  have d3' : decode c.code (pc + 3) = .ok (.dup, 1) := by rw [hb]; exact d3
  have d4' : decode c.code (pc + 4) = .ok (.ldc_w is, 3) := by rw [hb]; exact d4
  have hstr' : vk_R own is text sa s' := vk_R.warm hW0 hstr
  obtain ⟨U, hsteps, hrun, hend, hW, hsame, ce, hce, hO⟩ := X₁.ctorThrowS hexec htr (own := own) (cls := cls) (names := names) (ic := ic) hown' hcls hnames h (fun x hx => nomatch hx) hfX hkX hcellA (by rw [hhp, hT]; exact Nat.le_refl _) (msg := .ref sa) rfl
    (g := { method := m, pc := pc + 7, locals := ls, stack := .ref sa :: .ref T.heap.size :: .ref T.heap.size :: rest, locked := none }) rfl hsize rfl rfl (rest := rest) rfl
    (by rw [hb]; exact d7) (by rw [hb]; exact d10) hout hRframes (by simp only [List.map_cons, List.sum_cons, hcat]; omega) hlocks
  obtain ⟨f1, f2⟩ := vx_frame hsame
  rw [hhp] at f1 f2
  have hWs : s.WarmedH U.vm := State.WarmedH.trans hW0 hW
  have hcl : s.vm.findClass cls = some ce.cls := by
    have h9 := hO.cls
    rw [hvm] at h9
    exact h9
  have hall : s.sameButNew ({ U with vm := s.vm } : State) locs mc ms := by
    subst hA
    obtain ⟨e1, e2⟩ := hsame
    rw [State.setFrames_setFrames] at e1
    have h2 : (T.setVm s.vm).sameButNew ({ U with vm := s.vm } : State) [] (0 + 1) (0 + 6) := ⟨e1, e2⟩
    have h3 := X.same.trans h2
    rw [List.append_nil] at h3
    exact h3.mono hc hs
  refine ⟨U, ?_, .threw T.heap.size, hrun, hend, Or.inr ⟨T.heap.size, rfl, cls, ce, locs, hx U hWs.alike f1 (fun q hq => f2 q hq (fun z hz => nomatch hz)), hce, hO.vm, hcl, hWs, hall, hf⟩⟩
  refine st1 _ ?_
  show Steps p.tables e below (T1.setTop { method := m, pc := pc + 3, locals := ls, stack := .ref T.heap.size :: rest, locked := none }) _
  jvm_step X₁.here [X₁.here.top, hexec, d3', Value.category]
  exact X₁.ldcStringW hexec (own := own) (text := text) (index := is) (a := sa) hown' hstr'.1 hstr'.2
    (g := { method := m, pc := pc + 4, locals := ls, stack := .ref T.heap.size :: .ref T.heap.size :: rest, locked := none }) rfl d4' _ hsteps
end Ends
section Bodies
variable {l : Launch}
theorem vx_ofW {y : MethodName} {ws ws' : List Cond} {rm : Room} {Pc : Array Value → State → Prop} {Qc : Array Value → State → Outcome → State → Prop} {XC : String → State → State → Prop} {mc ms : Nat} {free : Addr → Prop} {cc : ByteArray} {maxL : Nat} {ret : Option FieldType}
    (hy : plainName y.cls = true) (hw : ws = Cond.code y cc maxL ret :: ws')
    (body : ∀ p e s m args below meth c s₁, BodyLoose p l y (headSpec ws rm) cc maxL ret e s m args below meth c s₁ → c.maxLocals = maxL → (∀ x ∈ c.exceptionTable.toList, False) → Pc args s →
      W p l e (headSpec ws rm).room s m args below meth c s.heap [] 0 0 (vx_MQ below Qc XC args s mc ms free) (entryFrame m args maxL)) : vx_Met l y ws rm Pc Qc XC mc ms free := by
  refine MetFree.of_bodyS (code := cc) (maxLocals := maxL) (ret := ret) hy ?_ ?_
  · intro args s m h hn
    obtain ⟨meth, c, h1, h2, h3, h4, h5, h6, -, -⟩ := Cond.code_spec hn (atoms_spec (ws := ws) h _ (by rw [hw]; exact List.mem_cons_self))
    exact ⟨meth, c, h1, h2, h3, h4, h5, h6⟩
  · intro p e s m args below meth c s₁ B hml hP _
    have hh0 : s₁.heap = s.heap := by rw [B.state]; rfl
    have ht : ∀ x ∈ c.exceptionTable.toList, False := by
      obtain ⟨meth9, c9, h1, h2, -, -, -, -, h7, -⟩ := Cond.code_spec B.named (atoms_spec (ws := ws) B.pre _ (by rw [hw]; exact List.mem_cons_self))
      cases Option.some.inj (h1.symm.trans B.method)
      cases Option.some.inj (h2.symm.trans (Stand.of_body B).code)
      intro x hx
      rw [Array.isEmpty_iff.mp h7] at hx
      cases hx
    obtain ⟨t, a1, o, b1, b2, b3⟩ := body p e s m args below meth c s₁ B hml ht hP s₁ hh0 (Stand.of_body B)
    exact ⟨t, o, a1, b1, b2, b3⟩
/-- the table of a body with handlers -/
theorem vx_table {p : Program} {x y : MethodName} {S : Spec} {cc bytes : ByteArray} {maxL maxL' : Nat} {ret ret' : Option FieldType} {e : Env} {s s₁ : State} {m : MethodId} {args : Array Value} {below : List Frame} {meth : Method} {c : Code} {hh : List (Nat × Nat × Nat × Nat)}
    (B : BodyLoose p l y S cc maxL ret e s m args below meth c s₁) (h : (Cond.codeWith y bytes maxL' ret' hh).before args s = true) : c.exceptionTable.toList = tableOf hh := by
  obtain ⟨m9, meth9, c9, hn9, h1, h2, -, -, h6, -⟩ := Cond.codeWith_spec h
  cases Option.some.inj (hn9.symm.trans B.named)
  cases Option.some.inj (h1.symm.trans B.method)
  cases Option.some.inj (h2.symm.trans (Stand.of_body B).code)
  rw [← h6, table_eq]
end Bodies
end VXA
/-! ===== END ===== -/
/-! ===== BEGIN a static call of a method with an exception table ===== -/
section VXS
variable {p : Program} {l : Launch} {e : Env} {R : Room} {s : State} {m : MethodId} {args : Array Value} {below : List Frame} {meth : Method} {c : Code} {T : State} {H : Heap} {locs : List Loc} {cells slots : Nat}
abbrev vx_CSW (R : Room) (s : State) (args : Array Value) (own : String) (index : Nat) (y : MethodName) (bytes : ByteArray) (maxL : Nat) (ret : Option FieldType) (hh : List (Nat × Nat × Nat × Nat)) (ws : List Cond) (rm : Room) (mc ms n : Nat) : Prop :=
  (rm.cells = mc ∧ rm.slots = ms ∧ rm.frames + 1 ≤ R.frames ∧ 8 + (maxL + 11) + rm.locals ≤ R.locals ∧ (∀ w ∈ ws, ∀ (a' : Array Value) (U : State), s.WarmedH U.vm → w.before a' U = true) ∧ Cond.codeWith y bytes maxL ret hh ∈ ws) ∧
  (Cond.codeWith y bytes maxL ret hh).before args s = true ∧ (Cond.initialized y.cls).before args s = true ∧ (y.cls ≠ "java/lang/invoke/MethodHandle" ∧ y.cls ≠ "java/lang/invoke/VarHandle") ∧
  (∀ sig, parseMethodDescriptor y.desc = some sig → n = sig.parameters.length) ∧ (Cond.methodLink own index y).before args s = true ∧ (Cond.static y).before args s = true
theorem vx_cwSW {own : String} {index maxL mc ms : Nat} {y : MethodName} {bytes : ByteArray} {ret : Option FieldType} {hh : List (Nat × Nat × Nat × Nat)} {Ts ws ws' : List Cond} {rm : Room} (n : Nat) (ht : ∀ w ∈ Ts, w.before args s = true) (hT : GoodIn Ts (va_wsS own index y ws)) (hw : ws = Cond.codeWith y bytes maxL ret hh :: ws') (hrc : rm.cells = mc) (hrs : rm.slots = ms)
    (hd : y.cls ≠ "java/lang/invoke/MethodHandle" ∧ y.cls ≠ "java/lang/invoke/VarHandle" ∧ (parseMethodDescriptor y.desc).map (fun d => d.parameters.length) = some n) (hR : rm.frames + 1 ≤ R.frames ∧ 8 + (maxL + 11) + rm.locals ≤ R.locals) :
    vx_CSW R s args own index y bytes maxL ret hh ws rm mc ms n := by
  have ok : ∀ w ∈ va_wsS own index y ws, w.before args s = true := fun w h => ht w (hT w h).1
  have hG : GoodIn Ts ws := fun w h => hT w (by unfold va_wsS; exact List.mem_append_right _ h)
  have hc : Cond.codeWith y bytes maxL ret hh ∈ ws := by rw [hw]; exact List.mem_cons_self
  refine ⟨⟨hrc, hrs, hR.1, hR.2, pay_in ht hG, hc⟩, ht _ (hG _ hc).1, ok _ (by simp [va_wsS]), ⟨hd.1, hd.2.1⟩, fun sig h => ?_, ok _ (by simp [va_wsS]), ok _ (by simp [va_wsS])⟩
  have h2 := hd.2.2
  rw [h] at h2
  exact (Option.some.inj h2).symm
theorem vx_callSW (X : Stand p l e R s m args below meth c T locs cells slots) (hexec : p.tables.exec = Jvm.exec) {own : String} {index : Nat} {y : MethodName} {bytes : ByteArray} {maxL : Nat} {ret : Option FieldType} {hh : List (Nat × Nat × Nat × Nat)}
    (hown : s.vm.findClass own = some m.cls) (hlink : (Cond.methodLink own index y).before args s = true) (hstat : (Cond.static y).before args s = true) (hinit : (Cond.initialized y.cls).before args s = true)
    (hcode : (Cond.codeWith y bytes maxL ret hh).before args s = true) (hy : y.cls ≠ "java/lang/invoke/MethodHandle" ∧ y.cls ≠ "java/lang/invoke/VarHandle")
    {W9 : Nat} {Pre : Pt → Array Value → Prop} {Post : Pt → Array Value → Option Value → Pt → Prop} (hK : Back l R p e below s args y 3 W9 Pre Post)
    {g : JFrame} (hg : g.method = m) (hsize : g.locals.size = c.maxLocals) {argsL rest : List Value} (hlen : ∀ sig, parseMethodDescriptor y.desc = some sig → argsL.length = sig.parameters.length)
    (hstack : g.stack = argsL.reverse ++ rest) (hW : 2 * g.monitorRoom + (rest.map fun v => v.category).sum ≤ W9) (hdg : decode c.code g.pc = .ok (.invokestatic index, 3))
    (hpre : ∀ vm₁, s.WarmedH vm₁ → Pre ⟨T.setVm vm₁, locs, cells, slots⟩ argsL.toArray) :
    ∃ (v : Option Value) (vm₁ : Vm) (B : Pt), s.WarmedH vm₁ ∧ Stand p l e R s m args below meth c B.U B.locs B.cells B.slots ∧ Post ⟨T.setVm vm₁, locs, cells, slots⟩ argsL.toArray v B ∧
      ∀ target, Steps p.tables e below (B.U.setTop { g with pc := g.pc + 3, stack := v.toList ++ rest }) target → Steps p.tables e below (T.setTop g) target := by
  obtain ⟨mk, methM, cM, hnamed, hmethM, -, -, -, -, -, -, hsigM⟩ := Cond.codeWith_spec hcode
  have hstatic : methM.isStatic = true := Cond.static_spec hnamed hmethM hstat
  obtain ⟨kP, hkP, -⟩ := className_of_methodNamed hnamed
  have hinitP : kP.init = .initialized := Cond.initialized_spec (findClass_of_methodNamed hnamed) hkP hinit
  obtain ⟨vm₁, X₁, hstep₁⟩ := X.invokestatic hexec hown hlink hnamed hmethM hstatic hkP hinitP hy (g := g) hg (argsL := argsL) (rest := rest) (hlen _ hsigM) hstack hdg
  obtain ⟨v, B, X', hpost, hsteps⟩ := hK m meth c ⟨T.setVm vm₁, locs, cells, slots⟩ { g with stack := rest } (.invokestatic index) mk argsL.toArray X₁ hg hsize hdg hW (X₁.named hnamed) (hpre vm₁ X₁.warmed)
  exact ⟨v, vm₁, B, X₁.warmed, X', hpost, fun target h => hstep₁ _ fun acts => by rw [doInvoke_state]; exact hsteps.trans h⟩
theorem vx_runSW {y : MethodName} {bytes cc : ByteArray} {maxL nL mc ms n index : Nat} {ret : Option FieldType} {hh : List (Nat × Nat × Nat × Nat)} {ws : List Cond} {rm : Room} {Pc : Array Value → State → Prop} {Qc : Array Value → State → Outcome → State → Prop} {free : Addr → Prop} {Ts : List Cond} {own : String} {As rest : List Value} {g : JFrame}
    (S : CallFix p m c cc nL s args Ts own) (hM : Met l y ws rm Pc Qc mc ms free) (cw : vx_CSW R s args own index y bytes maxL ret hh ws rm mc ms n) (hp : PreS s H Pc As)
    (hg : g.method = m) (hn : As.length = n) (hsize : g.locals.size = nL) (hstack : g.stack = As.reverse ++ rest) (hW : 2 * g.monitorRoom + (rest.map fun v => v.category).sum ≤ 8) (hdg : decode cc g.pc = .ok (.invokestatic index, 3)) (hf : cells + mc ≤ R.cells ∧ slots + ms ≤ R.slots) :
    va_Run p l e R s m args below meth c H locs cells slots mc ms g rest (Qc As.toArray) (free) := by
  obtain ⟨⟨hrc, hrs, hfr, hlo, hws, hcw⟩, hcode, hini, hy, hlen, hl, hstt⟩ := cw
  have hK : Back l R p e below s args y 3 8 (PreOf R mc ms Pc) (PostOf Qc mc ms free) := va_backW (hh := hh) (bytes := bytes) (maxL := maxL) (ret := ret) hM hp.1 hrc hrs hfr hlo hws hcw (fun a' U hW => word_at hW (Or.inl (by first | rfl | simp [Cond.onTables, Cond.keeps, Cond.steady])) hini)
  obtain ⟨hx, hb, hml, ho, -⟩ := S
  intro T hT X
  obtain ⟨v, vm₁, ⟨U', l2, c2, s2⟩, hW₁, X', ⟨g', mk, t, L, e1, e2, hq, h1, hL, h2, h3⟩, st⟩ := vx_callSW X hx (hh := hh) (bytes := bytes) (maxL := maxL) (ret := ret) ho hl hstt hini hcode hy hK hg (hsize.trans hml.symm) (argsL := As) (rest := rest) (fun sig h => hn.trans (hlen sig h)) hstack hW (by rw [hb]; exact hdg)
    (fun vm₁ hW₁ => ⟨hf.1, hf.2, hp.2 (T.setVm vm₁) hT hW₁⟩)
  dsimp only [Pt.U, Pt.locs, Pt.cells, Pt.slots] at X' e1 e2 h1 h2 h3 st
  subst h1; subst h2; subst h3
  exact ⟨v, (T.setVm vm₁).calling g' mk As.toArray, t, U', L, hT, X', hL, e1, e2, hq, st⟩
/-- not caught here, past rows that name other classes: it goes on to the caller -/
theorem vx_outP {p : Program} {l : Launch} {e : Env} {R : Room} {s : State} {m : MethodId} {args : Array Value} {below : List Frame} {meth : Method} {c : Code} {H : Heap} {locs : List Loc} {cells slots : Nat} {free : Addr → Prop} {ls : Array Slot} {rest : List Value} {Qc : Array Value → State → Outcome → State → Prop} {XC : String → State → State → Prop}
    {pc : Nat} {own E : String} {ce : Cell} {q : Addr} {mc ms : Nat} (hown : s.vm.findClass own = some m.cls) (hlocks : meth.locks = false)
    (hpass : ∀ z ∈ c.exceptionTable.toList, covers z pc = false ∨ (z.catchType ≠ 0 ∧ ∃ nm : String, (Cond.classLink own z.catchType nm).before args s = true ∧ va_Nc E nm s)) (hcell : H[q]? = some ce) (hv : ce.vm = .none) (hcl : s.vm.findClass E = some ce.cls)
    (hx : ∀ t : State, t.heap = H → s.vm.Alike t.vm → XC E s t) (hf : ∀ z ∈ locs, free z.base) (hc : cells ≤ mc) (hs : slots ≤ ms) :
    vx_W p l e R s m args below meth c H locs cells slots (vx_MQ below Qc XC args s mc ms free) (F0 m pc ls rest) q := by
  intro T hT X
  have hpl : e.platform.magicAccessors = ({} : Platform).magicAccessors := by rw [X.admits.platform]
  obtain ⟨vm', hW', X', st⟩ := X.outThrough hlocks q (g := F0 m pc ls rest) rfl rfl rfl (cell := ce) (by rw [hT]; exact hcell) (by rw [hv]; rfl)
    (by obtain ⟨k9, h9, -⟩ := Vm.findClass_spec hcl; exact ⟨k9, h9⟩) (fun z hz => by
      rcases hpass z hz with h | ⟨hz0, nm, hl1, hn1⟩
      · exact Or.inl h
      · obtain ⟨c6, hc6, hcl6⟩ := Cond.classLink_spec hown hl1 e.platform hpl
        obtain ⟨a8, b8, h1, h2, h3⟩ := hn1
        cases Option.some.inj (h1.symm.trans hcl)
        cases Option.some.inj (h2.symm.trans hc6)
        exact Or.inr ⟨hz0, _, hcl6, h3⟩)
  obtain ⟨g₀, hfr⟩ := X'.frames_eq
  have hcell9 : ((T.setVm vm').setFrames (.throwing q :: below)).heap[q]? = some ce := by
    show T.heap[q]? = some ce
    rw [hT]; exact hcell
  have hend : Ended ((T.setVm vm').setFrames (.throwing q :: below)) below (.threw q) := State.frames_setFrames _ (State.cur_lt_of_frames hfr)
  refine ⟨(T.setVm vm').setFrames (.throwing q :: below), ?_, .threw q, X'.here.running, hend, Or.inr ⟨q, rfl, E, ce, locs, hx _ hT (X'.ends _).1.alike, hcell9, hv, hcl, (X'.ends _).1, (X'.ends _).2.mono hc hs, hf⟩⟩
  rw [X.pushThrowing_eq]
  exact st
/-- a thing of a world lies in the heap -/
theorem vx_lt {D : va_G} {cl : List vw_C} {ws : va_W} {H1 : Heap} (h : va_P D cl ws H1) {k : Nat} {q : Nat × va_E} (hk : ws[k]? = some q) : q.1 < H1.size := (h k q hk).lt
end VXS
/-! ===== END ===== -/
/-! ===== BEGIN methods with a table of their own: called by a name, returning or throwing ===== -/
section VXH
/-! vx_backW, vx_callVX, vx_callSX, vx_callVW, vx_runVW, vx_runVX, vx_runSX, vx_ofWH follow the same proofs as their sisters above (Free/Laws.lean, Shelf42/LK1.lean); vx_outP calls Shelf42/NT130.lean (outThrough). -/
section
variable {l : Launch} {R : Room} {p : Program} {e : Env} {below : List Frame} {s : State} {sargs : Array Value} {y : MethodName} {len W9 : Nat}
theorem vx_backW {ws : List Cond} {rm : Room} {Pc : Array Value → State → Prop} {Qc : Array Value → State → Outcome → State → Prop} {XC : String → State → State → Prop} {mc ms : Nat} {free : Addr → Prop} {bytes : ByteArray} {maxL : Nat} {ret : Option FieldType} {hh : List (Nat × Nat × Nat × Nat)}
    (hM : vx_Met l y ws rm Pc Qc XC mc ms free) (hblind : FrameBlind Pc) (hrc : rm.cells = mc) (hrs : rm.slots = ms)
    (hframes : rm.frames + 1 ≤ R.frames) (hlocals : W9 + (maxL + 11) + rm.locals ≤ R.locals)
    (hws : ∀ w ∈ ws, ∀ a' U, s.WarmedH U.vm → w.before a' U = true) (hcode : Cond.codeWith y bytes maxL ret hh ∈ ws) (hinit : ∀ a' U, s.WarmedH U.vm → (Cond.initialized y.cls).before a' U = true) :
    vx_Back l R p e below s sargs y len W9 (PreOf R mc ms Pc) (PostOf Qc mc ms free) (vx_Post XC mc ms free) := by
  intro m meth c A g ig mk a X hg hsize hdg hW hn hp
  have h1 : (headSpec ws rm).pre.before a A.U = true := atoms_intro fun w hw => hws w hw _ _ X.warmed
  have h2 : (Cond.codeWith y bytes maxL ret hh).before a A.U = true := hws _ hcode _ _ X.warmed
  have h3 : (Cond.initialized y.cls).before a A.U = true := hinit _ _ X.warmed
  have h4 : A.cells + (headSpec ws rm).room.cells ≤ R.cells := by rw [show (headSpec ws rm).room.cells = mc from hrc]; exact hp.1
  have h5 : A.slots + (headSpec ws rm).room.slots ≤ R.slots := by rw [show (headSpec ws rm).room.slots = ms from hrs]; exact hp.2.1
  have hPc : Pc a (A.U.calling g mk a) := hblind _ _ _ _ hp.2.2
  obtain ⟨U, Ls, c0, s0⟩ := A
  dsimp only [Pt.U, Pt.locs, Pt.cells, Pt.slots] at h1 h2 h3 h4 h5 X hn hPc ⊢
  obtain ⟨m9, methY, cY, hn9, hmY, hcY, -, hlY, -⟩ := Cond.codeWith_spec h2
  cases Option.some.inj (hn9.symm.trans hn)
  obtain ⟨kY, hkY, -⟩ := className_of_methodNamed hn
  have hinitY : kY.init = .initialized := Cond.initialized_spec (findClass_of_methodNamed hn) hkY h3
  have h : At U g.method c below := by rw [hg]; exact X.here
  have hlocals9 : W9 + (maxL + 11) + (headSpec ws rm).room.locals ≤ R.locals := hlocals
  have happ : (headSpec ws rm).appliesLoose y e.platform (U.calling g mk a) = true :=
    Spec.appliesLoose_calling (g := g) h hdg hn hkY hinitY
      (X.room_calling (g := g) (R' := (headSpec ws rm).room) hsize hmY hcY hframes (by rw [hlY]; omega) h4 h5) h1
  obtain ⟨mid, hmid⟩ := h.above
  have hfr : (U.setTop g).frames = (.java g :: mid) ++ below := by rw [State.frames_setTop' g h.top, hmid]; rfl
  obtain ⟨o, s₂, hsteps, -, hend, hq⟩ := Steps.callFree hM p X.admits X.cas X.clock (acts := []) hfr happ hPc trivial
  have hq' : vx_Q Qc XC mc ms free a (U.calling g mk a) o s₂ := hq
  rw [State.frames_setTop' g h.top] at hend
  obtain ⟨g₀, hg0⟩ := Option.isSome_iff_exists.mp h.top
  obtain ⟨r, hr⟩ := State.topJava?_eq_some.mp hg0
  have hr' : (({ U with heap := s₂.heap, slotsUsed := s₂.slotsUsed } : State).setVm s₂.vm).frames = .java g₀ :: r := hr
  rcases hq' with ⟨hqc, L, hfe, hL⟩ | ⟨q, rfl, E, ce, L, hx, hce, hcv, hcl, hW₂, hsm, hL⟩
  · obtain ⟨⟨v, rfl⟩, hW₂, e2, q2, q3, q4, q5, q6⟩ := id hfe
    have e3 : s₂ = ({ (U.calling g mk a).setFrames s₂.frames with heap := s₂.heap, slotsUsed := s₂.slotsUsed } : State).setVm s₂.vm := by
      have : s₂ = ({ s₂ with vm := (U.calling g mk a).vm } : State).setVm s₂.vm := rfl
      rw [e2] at this
      exact this
    obtain ⟨c₂, i₂, len₂, hc₂, hd₂, hf₂⟩ := hend
    have hW' : U.WarmedH s₂.vm := hW₂
    have hcc : c₂ = c := by
      have h1 : s₂.code? g.method = U.code? g.method := by
        rw [State.code?_eq, State.code?_eq, hW'.alike.method?]
      exact Option.some.inj (hc₂.symm.trans (h1.trans h.code))
    subst hcc
    have hlen : len₂ = len := by rw [hdg] at hd₂; cases hd₂; rfl
    subst hlen
    have hs₂ : s₂ = (({ U with heap := s₂.heap, slotsUsed := s₂.slotsUsed } : State).setVm s₂.vm).setTop { g with pc := g.pc + len₂, stack := v.toList ++ g.stack } := by
      refine e3.trans ?_
      rw [hf₂, State.calling_eq h.top, State.setFrames_setFrames, State.setTop_of_frames _ hr', hr]
      rfl
    have hsame : U.sameButNew ({ U with heap := s₂.heap, slotsUsed := s₂.slotsUsed } : State) L mc ms := by
      refine ⟨?_, q2, q3, q4, q5, q6⟩
      obtain ⟨t, ht, -⟩ := State.frames_cons hr
      show ({ U with heap := s₂.heap, slotsUsed := s₂.slotsUsed } : State) = { U.setFrames U.frames with heap := s₂.heap, slotsUsed := s₂.slotsUsed }
      rw [State.setFrames_self ht]
    subst hg
    refine Or.inl ⟨v, ⟨(({ U with heap := s₂.heap, slotsUsed := s₂.slotsUsed } : State).setVm s₂.vm), Ls ++ L, c0 + mc, s0 + ms⟩,
      ⟨X.admits, X.cas, X.clock, X.frames, X.room, X.hears, X.method, X.code, (X.here.setHeapUsed s₂.heap s₂.slotsUsed).setVm hW'.alike, X.tail, State.WarmedH.trans X.warmed hW', X.limits, X.bytes, X.same.trans (hsame.setVm s.vm)⟩,
      ⟨g, mk, s₂, L, rfl, rfl, hqc, rfl, hL, rfl, rfl⟩, ?_⟩
    show Steps p.tables e below _ ((({ U with heap := s₂.heap, slotsUsed := s₂.slotsUsed } : State).setVm s₂.vm).setTop { g with pc := g.pc + len₂, stack := v.toList ++ g.stack })
    rw [← hs₂]
    exact hsteps
  · obtain ⟨e2, q2, q3, q4, q5, q6⟩ := id hsm
    have e3 : s₂ = ({ (U.calling g mk a).setFrames s₂.frames with heap := s₂.heap, slotsUsed := s₂.slotsUsed } : State).setVm s₂.vm := by
      have : s₂ = ({ s₂ with vm := (U.calling g mk a).vm } : State).setVm s₂.vm := rfl
      rw [e2] at this
      exact this
    have hf₂ : s₂.frames = .throwing q :: .java g :: U.frames.tail := hend
    have hW' : U.WarmedH s₂.vm := hW₂
    have hs₂ : s₂ = ((({ U with heap := s₂.heap, slotsUsed := s₂.slotsUsed } : State).setVm s₂.vm).setTop g).pushFrame (.throwing q) := by
      refine e3.trans ?_
      rw [hf₂, State.calling_eq h.top, State.setFrames_setFrames, State.pushFrame, State.frames_setTop _ hr', State.setTop_of_frames _ hr', State.setFrames_setFrames, hr]
      rfl
    have hsame : U.sameButNew ({ U with heap := s₂.heap, slotsUsed := s₂.slotsUsed } : State) L mc ms := by
      refine ⟨?_, q2, q3, q4, q5, q6⟩
      obtain ⟨t, ht, -⟩ := State.frames_cons hr
      show ({ U with heap := s₂.heap, slotsUsed := s₂.slotsUsed } : State) = { U.setFrames U.frames with heap := s₂.heap, slotsUsed := s₂.slotsUsed }
      rw [State.setFrames_self ht]
    subst hg
    refine Or.inr ⟨q, ⟨(({ U with heap := s₂.heap, slotsUsed := s₂.slotsUsed } : State).setVm s₂.vm), Ls ++ L, c0 + mc, s0 + ms⟩,
      ⟨X.admits, X.cas, X.clock, X.frames, X.room, X.hears, X.method, X.code, (X.here.setHeapUsed s₂.heap s₂.slotsUsed).setVm hW'.alike, X.tail, State.WarmedH.trans X.warmed hW', X.limits, X.bytes, X.same.trans (hsame.setVm s.vm)⟩,
      ⟨g, mk, s₂, L, E, ce, rfl, rfl, hx, hce, hcv, hcl, rfl, hL, rfl, rfl⟩, ?_⟩
    show Steps p.tables e below _ (((({ U with heap := s₂.heap, slotsUsed := s₂.slotsUsed } : State).setVm s₂.vm).setTop g).pushFrame (.throwing q))
    rw [← hs₂]
    exact hsteps
end
variable {p : Program} {l : Launch} {e : Env} {R : Room} {s : State} {m : MethodId} {args : Array Value} {below : List Frame} {meth : Method} {c : Code} {T : State} {H : Heap} {locs : List Loc} {cells slots : Nat}
theorem vx_callVX (X : Stand p l e R s m args below meth c T locs cells slots) (hexec : p.tables.exec = Jvm.exec) {own C : String} {index : Nat} {y : MethodName} {bytes : ByteArray} {maxL : Nat} {ret : Option FieldType} {hh : List (Nat × Nat × Nat × Nat)}
    (hown : s.vm.findClass own = some m.cls) (hlink : (Cond.methodLink own index y).before args s = true) (hinst : (Cond.instanceMethod y).before args s = true) (hsel : (Cond.selects C y y).before args s = true)
    (hcode : (Cond.codeWith y bytes maxL ret hh).before args s = true) (hy : y.cls ≠ "java/lang/invoke/MethodHandle" ∧ y.cls ≠ "java/lang/invoke/VarHandle")
    {W9 : Nat} {Pre : Pt → Array Value → Prop} {Post : Pt → Array Value → Option Value → Pt → Prop} {PostX : Pt → Array Value → Addr → Pt → Prop} (hK : vx_Back l R p e below s args y 3 W9 Pre Post PostX)
    {b : Addr} {cellB : Cell} (hcell : T.heap[b]? = some cellB) (hobj : cellB.vm.isStatics = false) (hcls : s.vm.findClass C = some cellB.cls)
    {g : JFrame} (hg : g.method = m) (hsize : g.locals.size = c.maxLocals) {argsL rest : List Value} (hlen : ∀ sig, parseMethodDescriptor y.desc = some sig → argsL.length = sig.parameters.length)
    (hstack : g.stack = argsL.reverse ++ .ref b :: rest) (hW : 2 * g.monitorRoom + (rest.map fun v => v.category).sum ≤ W9) (hdg : decode c.code g.pc = .ok (.invokevirtual index, 3))
    (hpre : ∀ vm₁, s.WarmedH vm₁ → Pre ⟨T.setVm vm₁, locs, cells, slots⟩ (Value.ref b :: argsL).toArray) :
    (∃ (v : Option Value) (vm₁ : Vm) (B : Pt), s.WarmedH vm₁ ∧ Stand p l e R s m args below meth c B.U B.locs B.cells B.slots ∧ Post ⟨T.setVm vm₁, locs, cells, slots⟩ (Value.ref b :: argsL).toArray v B ∧
      ∀ target, Steps p.tables e below (B.U.setTop { g with pc := g.pc + 3, stack := v.toList ++ rest }) target → Steps p.tables e below (T.setTop g) target) ∨
    (∃ (q : Addr) (vm₁ : Vm) (B : Pt), s.WarmedH vm₁ ∧ Stand p l e R s m args below meth c B.U B.locs B.cells B.slots ∧ PostX ⟨T.setVm vm₁, locs, cells, slots⟩ (Value.ref b :: argsL).toArray q B ∧
      Steps p.tables e below (T.setTop g) ((B.U.setTop { g with stack := rest }).pushFrame (.throwing q))) := by
  obtain ⟨mk, methM, hnamed, hmethM, hstM, habM⟩ := Cond.instanceMethod_spec hinst
  obtain ⟨m8, methM', cM, hn8, hmethM', -, -, -, -, -, -, hsigM⟩ := Cond.codeWith_spec hcode
  cases Option.some.inj (hn8.symm.trans hnamed)
  cases hmethM.symm.trans hmethM'
  obtain ⟨c2, r2, m2, q1, q2, q3, q4, kP, hkP, hkPi⟩ := Cond.selects_spec hsel
  cases hcls.symm.trans q1
  cases (State.methodFound?_of_named hnamed hy).symm.trans q2
  cases hnamed.symm.trans q3
  have hselP : selectMethod e.platform s.vm cellB.cls mk = .method mk := by rw [Launch.admits_selectMethod X.admits]; exact q4
  obtain ⟨vm₁, X₁, hstep₁⟩ := X.invokevirtual hexec hown hlink hnamed hmethM hstM hkP hkPi hy (a := b) (cell := cellB) hcell
    (fun z h => by rw [h] at hobj; cases hobj) hselP hmethM habM hkP hkPi (g := g) hg (argsL := argsL) (rest := rest) (hlen _ hsigM) hstack hdg
  rcases hK m meth c ⟨T.setVm vm₁, locs, cells, slots⟩ { g with stack := rest } (.invokevirtual index) mk (Value.ref b :: argsL).toArray X₁ hg hsize hdg hW (X₁.named hnamed) (hpre vm₁ X₁.warmed) with ⟨v, B, X', hpost, hsteps⟩ | ⟨q, B, X', hpost, hsteps⟩
  · exact Or.inl ⟨v, vm₁, B, X₁.warmed, X', hpost, fun target h => hstep₁ _ fun acts => by rw [doInvoke_state]; exact hsteps.trans h⟩
  · exact Or.inr ⟨q, vm₁, B, X₁.warmed, X', hpost, hstep₁ _ fun acts => by rw [doInvoke_state]; exact hsteps⟩
theorem vx_callSX (X : Stand p l e R s m args below meth c T locs cells slots) (hexec : p.tables.exec = Jvm.exec) {own : String} {index : Nat} {y : MethodName} {bytes : ByteArray} {maxL : Nat} {ret : Option FieldType} {hh : List (Nat × Nat × Nat × Nat)}
    (hown : s.vm.findClass own = some m.cls) (hlink : (Cond.methodLink own index y).before args s = true) (hstat : (Cond.static y).before args s = true) (hinit : (Cond.initialized y.cls).before args s = true)
    (hcode : (Cond.codeWith y bytes maxL ret hh).before args s = true) (hy : y.cls ≠ "java/lang/invoke/MethodHandle" ∧ y.cls ≠ "java/lang/invoke/VarHandle")
    {W9 : Nat} {Pre : Pt → Array Value → Prop} {Post : Pt → Array Value → Option Value → Pt → Prop} {PostX : Pt → Array Value → Addr → Pt → Prop} (hK : vx_Back l R p e below s args y 3 W9 Pre Post PostX)
    {g : JFrame} (hg : g.method = m) (hsize : g.locals.size = c.maxLocals) {argsL rest : List Value} (hlen : ∀ sig, parseMethodDescriptor y.desc = some sig → argsL.length = sig.parameters.length)
    (hstack : g.stack = argsL.reverse ++ rest) (hW : 2 * g.monitorRoom + (rest.map fun v => v.category).sum ≤ W9) (hdg : decode c.code g.pc = .ok (.invokestatic index, 3))
    (hpre : ∀ vm₁, s.WarmedH vm₁ → Pre ⟨T.setVm vm₁, locs, cells, slots⟩ argsL.toArray) :
    (∃ (v : Option Value) (vm₁ : Vm) (B : Pt), s.WarmedH vm₁ ∧ Stand p l e R s m args below meth c B.U B.locs B.cells B.slots ∧ Post ⟨T.setVm vm₁, locs, cells, slots⟩ argsL.toArray v B ∧
      ∀ target, Steps p.tables e below (B.U.setTop { g with pc := g.pc + 3, stack := v.toList ++ rest }) target → Steps p.tables e below (T.setTop g) target) ∨
    (∃ (q : Addr) (vm₁ : Vm) (B : Pt), s.WarmedH vm₁ ∧ Stand p l e R s m args below meth c B.U B.locs B.cells B.slots ∧ PostX ⟨T.setVm vm₁, locs, cells, slots⟩ argsL.toArray q B ∧
      Steps p.tables e below (T.setTop g) ((B.U.setTop { g with stack := rest }).pushFrame (.throwing q))) := by
  obtain ⟨mk, methM, cM, hnamed, hmethM, -, -, -, -, -, -, hsigM⟩ := Cond.codeWith_spec hcode
  have hstatic : methM.isStatic = true := Cond.static_spec hnamed hmethM hstat
  obtain ⟨kP, hkP, -⟩ := className_of_methodNamed hnamed
  have hinitP : kP.init = .initialized := Cond.initialized_spec (findClass_of_methodNamed hnamed) hkP hinit
  obtain ⟨vm₁, X₁, hstep₁⟩ := X.invokestatic hexec hown hlink hnamed hmethM hstatic hkP hinitP hy (g := g) hg (argsL := argsL) (rest := rest) (hlen _ hsigM) hstack hdg
  rcases hK m meth c ⟨T.setVm vm₁, locs, cells, slots⟩ { g with stack := rest } (.invokestatic index) mk argsL.toArray X₁ hg hsize hdg hW (X₁.named hnamed) (hpre vm₁ X₁.warmed) with ⟨v, B, X', hpost, hsteps⟩ | ⟨q, B, X', hpost, hsteps⟩
  · exact Or.inl ⟨v, vm₁, B, X₁.warmed, X', hpost, fun target h => hstep₁ _ fun acts => by rw [doInvoke_state]; exact hsteps.trans h⟩
  · exact Or.inr ⟨q, vm₁, B, X₁.warmed, X', hpost, hstep₁ _ fun acts => by rw [doInvoke_state]; exact hsteps⟩
theorem vx_callVW (X : Stand p l e R s m args below meth c T locs cells slots) (hexec : p.tables.exec = Jvm.exec) {own C : String} {index : Nat} {y : MethodName} {bytes : ByteArray} {maxL : Nat} {ret : Option FieldType} {hh : List (Nat × Nat × Nat × Nat)}
    (hown : s.vm.findClass own = some m.cls) (hlink : (Cond.methodLink own index y).before args s = true) (hinst : (Cond.instanceMethod y).before args s = true) (hsel : (Cond.selects C y y).before args s = true)
    (hcode : (Cond.codeWith y bytes maxL ret hh).before args s = true) (hy : y.cls ≠ "java/lang/invoke/MethodHandle" ∧ y.cls ≠ "java/lang/invoke/VarHandle")
    {W9 : Nat} {Pre : Pt → Array Value → Prop} {Post : Pt → Array Value → Option Value → Pt → Prop} (hK : Back l R p e below s args y 3 W9 Pre Post)
    {b : Addr} {cellB : Cell} (hcell : T.heap[b]? = some cellB) (hobj : cellB.vm.isStatics = false) (hcls : s.vm.findClass C = some cellB.cls)
    {g : JFrame} (hg : g.method = m) (hsize : g.locals.size = c.maxLocals) {argsL rest : List Value} (hlen : ∀ sig, parseMethodDescriptor y.desc = some sig → argsL.length = sig.parameters.length)
    (hstack : g.stack = argsL.reverse ++ .ref b :: rest) (hW : 2 * g.monitorRoom + (rest.map fun v => v.category).sum ≤ W9) (hdg : decode c.code g.pc = .ok (.invokevirtual index, 3))
    (hpre : ∀ vm₁, s.WarmedH vm₁ → Pre ⟨T.setVm vm₁, locs, cells, slots⟩ (Value.ref b :: argsL).toArray) :
    ∃ (v : Option Value) (vm₁ : Vm) (B : Pt), s.WarmedH vm₁ ∧ Stand p l e R s m args below meth c B.U B.locs B.cells B.slots ∧ Post ⟨T.setVm vm₁, locs, cells, slots⟩ (Value.ref b :: argsL).toArray v B ∧
      ∀ target, Steps p.tables e below (B.U.setTop { g with pc := g.pc + 3, stack := v.toList ++ rest }) target → Steps p.tables e below (T.setTop g) target := by
  obtain ⟨mk, methM, hnamed, hmethM, hstM, habM⟩ := Cond.instanceMethod_spec hinst
  obtain ⟨m8, methM', cM, hn8, hmethM', -, -, -, -, -, -, hsigM⟩ := Cond.codeWith_spec hcode
  cases Option.some.inj (hn8.symm.trans hnamed)
  cases hmethM.symm.trans hmethM'
  obtain ⟨c2, r2, m2, q1, q2, q3, q4, kP, hkP, hkPi⟩ := Cond.selects_spec hsel
  cases hcls.symm.trans q1
  cases (State.methodFound?_of_named hnamed hy).symm.trans q2
  cases hnamed.symm.trans q3
  have hselP : selectMethod e.platform s.vm cellB.cls mk = .method mk := by rw [Launch.admits_selectMethod X.admits]; exact q4
  obtain ⟨vm₁, X₁, hstep₁⟩ := X.invokevirtual hexec hown hlink hnamed hmethM hstM hkP hkPi hy (a := b) (cell := cellB) hcell
    (fun z h => by rw [h] at hobj; cases hobj) hselP hmethM habM hkP hkPi (g := g) hg (argsL := argsL) (rest := rest) (hlen _ hsigM) hstack hdg
  obtain ⟨v, B, X', hpost, hsteps⟩ := hK m meth c ⟨T.setVm vm₁, locs, cells, slots⟩ { g with stack := rest } (.invokevirtual index) mk (Value.ref b :: argsL).toArray X₁ hg hsize hdg hW (X₁.named hnamed) (hpre vm₁ X₁.warmed)
  exact ⟨v, vm₁, B, X₁.warmed, X', hpost, fun target h => hstep₁ _ fun acts => by rw [doInvoke_state]; exact hsteps.trans h⟩
abbrev vx_CVW (R : Room) (s : State) (args : Array Value) (own C : String) (index : Nat) (y : MethodName) (bytes : ByteArray) (maxL : Nat) (ret : Option FieldType) (hh : List (Nat × Nat × Nat × Nat)) (ws : List Cond) (rm : Room) (mc ms n : Nat) : Prop :=
  (rm.cells = mc ∧ rm.slots = ms ∧ rm.frames + 1 ≤ R.frames ∧ 8 + (maxL + 11) + rm.locals ≤ R.locals ∧ (∀ w ∈ ws, ∀ (a' : Array Value) (U : State), s.WarmedH U.vm → w.before a' U = true) ∧ Cond.codeWith y bytes maxL ret hh ∈ ws) ∧
  (Cond.codeWith y bytes maxL ret hh).before args s = true ∧ (Cond.initialized y.cls).before args s = true ∧ (y.cls ≠ "java/lang/invoke/MethodHandle" ∧ y.cls ≠ "java/lang/invoke/VarHandle") ∧
  (∀ sig, parseMethodDescriptor y.desc = some sig → n = sig.parameters.length) ∧ (Cond.methodLink own index y).before args s = true ∧ (Cond.instanceMethod y).before args s = true ∧ (Cond.selects C y y).before args s = true
theorem vx_cwVW {own C : String} {index maxL mc ms : Nat} {y : MethodName} {bytes : ByteArray} {ret : Option FieldType} {hh : List (Nat × Nat × Nat × Nat)} {Ts ws ws' : List Cond} {rm : Room} (n : Nat) (ht : ∀ w ∈ Ts, w.before args s = true) (hT : GoodIn Ts (wsV own index C y ws)) (hw : ws = Cond.codeWith y bytes maxL ret hh :: ws') (hrc : rm.cells = mc) (hrs : rm.slots = ms)
    (hd : y.cls = C ∧ y.cls ≠ "java/lang/invoke/MethodHandle" ∧ y.cls ≠ "java/lang/invoke/VarHandle" ∧ (parseMethodDescriptor y.desc).map (fun d => d.parameters.length) = some n) (hR : rm.frames + 1 ≤ R.frames ∧ 8 + (maxL + 11) + rm.locals ≤ R.locals) :
    vx_CVW R s args own C index y bytes maxL ret hh ws rm mc ms n := by
  obtain ⟨hC, hd⟩ := hd
  subst hC
  have ok : ∀ w ∈ wsV own index y.cls y ws, w.before args s = true := fun w h => ht w (hT w h).1
  have hG : GoodIn Ts ws := fun w h => hT w (by unfold wsV; exact List.mem_append_right _ h)
  have hc : Cond.codeWith y bytes maxL ret hh ∈ ws := by rw [hw]; exact List.mem_cons_self
  refine ⟨⟨hrc, hrs, hR.1, hR.2, pay_in ht hG, hc⟩, ht _ (hG _ hc).1, ok _ (by simp [wsV]), ⟨hd.1, hd.2.1⟩, fun sig h => ?_, ok _ (by simp [wsV]), ok _ (by simp [wsV]), ok _ (by simp [wsV])⟩
  have h2 := hd.2.2
  rw [h] at h2
  exact (Option.some.inj h2).symm
theorem vx_runVW {y : MethodName} {bytes cc : ByteArray} {maxL nL mc ms n index : Nat} {ret : Option FieldType} {hh : List (Nat × Nat × Nat × Nat)} {ws : List Cond} {rm : Room} {Pc : Array Value → State → Prop} {Qc : Array Value → State → Outcome → State → Prop} {free : Addr → Prop} {Ts : List Cond} {own C : String} {b : Addr} {As rest : List Value} {g : JFrame}
    (S : CallFix p m c cc nL s args Ts own) (hM : Met l y ws rm Pc Qc mc ms free) (cw : vx_CVW R s args own C index y bytes maxL ret hh ws rm mc ms n) (hp : PreV s H C b Pc As)
    (hg : g.method = m) (hn : As.length = n) (hsize : g.locals.size = nL) (hstack : g.stack = As.reverse ++ .ref b :: rest) (hW : 2 * g.monitorRoom + (rest.map fun v => v.category).sum ≤ 8) (hdg : decode cc g.pc = .ok (.invokevirtual index, 3)) (hf : cells + mc ≤ R.cells ∧ slots + ms ≤ R.slots) :
    va_Run p l e R s m args below meth c H locs cells slots mc ms g rest (Qc (Value.ref b :: As).toArray) free := by
  obtain ⟨⟨hrc, hrs, hfr, hlo, hws, hcw⟩, hcode, hini, hy, hlen, hl, hin, hse⟩ := cw
  have hK : Back l R p e below s args y 3 8 (PreOf R mc ms Pc) (PostOf Qc mc ms free) := va_backW (hh := hh) (bytes := bytes) (maxL := maxL) (ret := ret) hM hp.1 hrc hrs hfr hlo hws hcw (fun a' U hW => word_at hW (Or.inl (by first | rfl | simp [Cond.onTables, Cond.keeps, Cond.steady])) hini)
  obtain ⟨hx, hb, hml, ho, -⟩ := S
  obtain ⟨-, ⟨cellB, hcB, hoB, hclB⟩, hPc⟩ := hp
  intro T hT X
  obtain ⟨v, vm₁, ⟨U', l2, c2, s2⟩, hW₁, X', ⟨g', mk, t, L, e1, e2, hq, h1, hL, h2, h3⟩, st⟩ := vx_callVW X hx (C := C) (hh := hh) (bytes := bytes) (maxL := maxL) (ret := ret) ho hl hin hse hcode hy hK (by rw [hT]; exact hcB) hoB hclB hg (hsize.trans hml.symm) (argsL := As) (rest := rest) (fun sig h => hn.trans (hlen sig h)) hstack hW (by rw [hb]; exact hdg)
    (fun vm₁ hW₁ => ⟨hf.1, hf.2, hPc (T.setVm vm₁) hT hW₁⟩)
  dsimp only [Pt.U, Pt.locs, Pt.cells, Pt.slots] at X' e1 e2 h1 h2 h3 st
  subst h1; subst h2; subst h3
  exact ⟨v, (T.setVm vm₁).calling g' mk (Value.ref b :: As).toArray, t, U', L, hT, X', hL, e1, e2, hq, st⟩
section
variable {y : MethodName} {bytes cc : ByteArray} {maxL nL mc ms n index : Nat} {ret : Option FieldType} {ws : List Cond} {rm : Room} {Pc : Array Value → State → Prop} {Qc : Array Value → State → Outcome → State → Prop} {XC : String → State → State → Prop} {free : Addr → Prop} {Ts : List Cond} {own C : String} {b : Addr} {As rest : List Value} {g : JFrame}
theorem vx_runVX {hh : List (Nat × Nat × Nat × Nat)} (S : CallFix p m c cc nL s args Ts own) (hM : vx_Met l y ws rm Pc Qc XC mc ms free) (cw : vx_CVW R s args own C index y bytes maxL ret hh ws rm mc ms n) (hp : PreV s H C b Pc As)
    (hg : g.method = m) (hn : As.length = n) (hsize : g.locals.size = nL) (hstack : g.stack = As.reverse ++ .ref b :: rest) (hW : 2 * g.monitorRoom + (rest.map fun v => v.category).sum ≤ 8) (hdg : decode cc g.pc = .ok (.invokevirtual index, 3)) (hf : cells + mc ≤ R.cells ∧ slots + ms ≤ R.slots) :
    vx_Run p l e R s m args below meth c H locs cells slots mc ms g rest (Qc (Value.ref b :: As).toArray) XC free := by
  obtain ⟨⟨hrc, hrs, hfr, hlo, hws, hcw⟩, hcode, hini, hy, hlen, hl, hin, hse⟩ := cw
  have hK : vx_Back l R p e below s args y 3 8 (PreOf R mc ms Pc) (PostOf Qc mc ms free) (vx_Post XC mc ms free) := vx_backW (hh := hh) (bytes := bytes) (maxL := maxL) (ret := ret) hM hp.1 hrc hrs hfr hlo hws hcw (fun a' U hW => word_at hW (Or.inl (by first | rfl | simp [Cond.onTables, Cond.keeps, Cond.steady])) hini)
  obtain ⟨hx, hb, hml, ho, -⟩ := S
  obtain ⟨-, ⟨cellB, hcB, hoB, hclB⟩, hPc⟩ := hp
  intro T hT X
  rcases vx_callVX X hx (C := C) (hh := hh) (bytes := bytes) (maxL := maxL) (ret := ret) ho hl hin hse hcode hy hK (by rw [hT]; exact hcB) hoB hclB hg (hsize.trans hml.symm) (argsL := As) (rest := rest) (fun sig h => hn.trans (hlen sig h)) hstack hW (by rw [hb]; exact hdg)
    (fun vm₁ hW₁ => ⟨hf.1, hf.2, hPc (T.setVm vm₁) hT hW₁⟩) with ⟨v, vm₁, ⟨U', l2, c2, s2⟩, hW₁, X', ⟨g', mk, t, L, e1, e2, hq, h1, hL, h2, h3⟩, st⟩ | ⟨q, vm₁, ⟨U', l2, c2, s2⟩, hW₁, X', ⟨g', mk, t, L, E, ce, e1, e2, hq, hce, hcv, hcl, h1, hL, h2, h3⟩, st⟩
  · dsimp only [Pt.U, Pt.locs, Pt.cells, Pt.slots] at X' e1 e2 h1 h2 h3 st
    subst h1; subst h2; subst h3
    exact Or.inl ⟨v, (T.setVm vm₁).calling g' mk (Value.ref b :: As).toArray, t, U', L, hT, X', hL, e1, e2, hq, st⟩
  · dsimp only [Pt.U, Pt.locs, Pt.cells, Pt.slots] at X' e1 e2 h1 h2 h3 st hcl
    subst h1; subst h2; subst h3
    exact Or.inr ⟨q, (T.setVm vm₁).calling g' mk (Value.ref b :: As).toArray, t, U', L, E, ce, hT, X', hL, e1, e2, hq, hce, hcv, vx_cls hW₁ hcl, st⟩
theorem vx_runSX {hh : List (Nat × Nat × Nat × Nat)} (S : CallFix p m c cc nL s args Ts own) (hM : vx_Met l y ws rm Pc Qc XC mc ms free) (cw : vx_CSW R s args own index y bytes maxL ret hh ws rm mc ms n) (hp : PreS s H Pc As)
    (hg : g.method = m) (hn : As.length = n) (hsize : g.locals.size = nL) (hstack : g.stack = As.reverse ++ rest) (hW : 2 * g.monitorRoom + (rest.map fun v => v.category).sum ≤ 8) (hdg : decode cc g.pc = .ok (.invokestatic index, 3)) (hf : cells + mc ≤ R.cells ∧ slots + ms ≤ R.slots) :
    vx_Run p l e R s m args below meth c H locs cells slots mc ms g rest (Qc As.toArray) XC free := by
  obtain ⟨⟨hrc, hrs, hfr, hlo, hws, hcw⟩, hcode, hini, hy, hlen, hl, hstt⟩ := cw
  have hK : vx_Back l R p e below s args y 3 8 (PreOf R mc ms Pc) (PostOf Qc mc ms free) (vx_Post XC mc ms free) := vx_backW (hh := hh) (bytes := bytes) (maxL := maxL) (ret := ret) hM hp.1 hrc hrs hfr hlo hws hcw (fun a' U hW => word_at hW (Or.inl (by first | rfl | simp [Cond.onTables, Cond.keeps, Cond.steady])) hini)
  obtain ⟨hx, hb, hml, ho, -⟩ := S
  intro T hT X
  rcases vx_callSX X hx (hh := hh) (bytes := bytes) (maxL := maxL) (ret := ret) ho hl hstt hini hcode hy hK hg (hsize.trans hml.symm) (argsL := As) (rest := rest) (fun sig h => hn.trans (hlen sig h)) hstack hW (by rw [hb]; exact hdg)
    (fun vm₁ hW₁ => ⟨hf.1, hf.2, hp.2 (T.setVm vm₁) hT hW₁⟩) with ⟨v, vm₁, ⟨U', l2, c2, s2⟩, hW₁, X', ⟨g', mk, t, L, e1, e2, hq, h1, hL, h2, h3⟩, st⟩ | ⟨q, vm₁, ⟨U', l2, c2, s2⟩, hW₁, X', ⟨g', mk, t, L, E, ce, e1, e2, hq, hce, hcv, hcl, h1, hL, h2, h3⟩, st⟩
  · dsimp only [Pt.U, Pt.locs, Pt.cells, Pt.slots] at X' e1 e2 h1 h2 h3 st
    subst h1; subst h2; subst h3
    exact Or.inl ⟨v, (T.setVm vm₁).calling g' mk As.toArray, t, U', L, hT, X', hL, e1, e2, hq, st⟩
  · dsimp only [Pt.U, Pt.locs, Pt.cells, Pt.slots] at X' e1 e2 h1 h2 h3 st hcl
    subst h1; subst h2; subst h3
    exact Or.inr ⟨q, (T.setVm vm₁).calling g' mk As.toArray, t, U', L, E, ce, hT, X', hL, e1, e2, hq, hce, hcv, vx_cls hW₁ hcl, st⟩
end
end VXH
theorem vx_ofWH {l : Launch} {y : MethodName} {ws ws' : List Cond} {rm : Room} {Pc : Array Value → State → Prop} {Qc : Array Value → State → Outcome → State → Prop} {XC : String → State → State → Prop} {mc ms : Nat} {free : Addr → Prop} {cc : ByteArray} {maxL : Nat} {ret : Option FieldType} {hh : List (Nat × Nat × Nat × Nat)}
    (hy : plainName y.cls = true) (hw : ws = Cond.codeWith y cc maxL ret hh :: ws')
    (body : ∀ p e s m args below meth c s₁, BodyLoose p l y (headSpec ws rm) cc maxL ret e s m args below meth c s₁ → c.maxLocals = maxL → Pc args s →
      W p l e (headSpec ws rm).room s m args below meth c s.heap [] 0 0 (vx_MQ below Qc XC args s mc ms free) (entryFrame m args maxL)) : vx_Met l y ws rm Pc Qc XC mc ms free := by
  refine MetFree.of_bodyS (code := cc) (maxLocals := maxL) (ret := ret) hy ?_ ?_
  · intro args s m h hn
    obtain ⟨m9, meth, c, hn9, h1, h2, h3, h4, -, h5, h6, -⟩ := Cond.codeWith_spec (atoms_spec (ws := ws) h _ (by rw [hw]; exact List.mem_cons_self))
    cases hn.symm.trans hn9
    exact ⟨meth, c, h1, h2, h3, h4, h5, h6⟩
  · intro p e s m args below meth c s₁ B hml hP _
    have hh0 : s₁.heap = s.heap := by rw [B.state]; rfl
    obtain ⟨t, a1, o, b1, b2, b3⟩ := body p e s m args below meth c s₁ B hml hP s₁ hh0 (Stand.of_body B)
    exact ⟨t, o, a1, b1, b2, b3⟩
/-! ===== END ===== -/
end
section
/-! ===== BEGIN printed: names, fields, word lists, decode rows ===== -/
def RX0 : String := "KingTies$Kin"
def TX0 : u_T := fun k => match k with
  | 0 => ("KingTies$Kin", "persons", "I", false)
  | 1 => ("KingTies$Kin", "male", "[Z", true)
  | 2 => ("KingTies$Kin", "birth", "[I", true)
  | 3 => ("KingTies$Kin", "mother", "[I", true)
  | 4 => ("KingTies$Kin", "father", "[I", true)
  | _ => ("KingTies$Kin", "steps", "[[I", true)
def tyX0 : Nat → FieldType := fun k => match k with
  | 0 => .int
  | 1 => .array .boolean
  | 2 => .array .int
  | 3 => .array .int
  | 4 => .array .int
  | _ => .array (.array .int)
abbrev wsX00 : List Cond := u_ws RX0 TX0 6
theorem nmX0 : ∀ a, a < 6 → ∀ b, b < 6 → a ≠ b → (TX0 a).2.1 ≠ (TX0 b).2.1 := by decide +kernel
theorem tyX0_ok : ∀ k, k < 6 → parseFieldDescriptor (TX0 k).2.2.1 = some (tyX0 k) := by decide +kernel
abbrev cX0_init : ByteArray := prog_2_method_1_code
def yX0_init : MethodName := ⟨RX0, "<init>", "()V"⟩
abbrev cX0_knows : ByteArray := prog_2_method_2_code
def yX0_knows : MethodName := ⟨RX0, "knows", "(I)Z"⟩
abbrev cX0_isFull : ByteArray := prog_2_method_3_code
def yX0_isFull : MethodName := ⟨RX0, "isFull", "()Z"⟩
abbrev cX0_add : ByteArray := prog_2_method_4_code
def yX0_add : MethodName := ⟨RX0, "add", "(ZIII)I"⟩
abbrev cX0_stepsThroughParents : ByteArray := prog_2_method_5_code
def yX0_stepsThroughParents : MethodName := ⟨RX0, "stepsThroughParents", "(III)I"⟩
abbrev cX0_stepsBetween : ByteArray := prog_2_method_6_code
def yX0_stepsBetween : MethodName := ⟨RX0, "stepsBetween", "(II)I"⟩
abbrev cX0_isBefore : ByteArray := prog_2_method_7_code
def yX0_isBefore : MethodName := ⟨RX0, "isBefore", "(II)Z"⟩
abbrev cX0_isAhead : ByteArray := prog_2_method_8_code
def yX0_isAhead : MethodName := ⟨RX0, "isAhead", "(III)Z"⟩
abbrev cX0_childrenOf : ByteArray := prog_2_method_9_code
def yX0_childrenOf : MethodName := ⟨RX0, "childrenOf", "(I)I"⟩
def RX1 : String := "KingTies$Lands"
def TX1 : u_T := fun k => match k with
  | 0 => ("KingTies$Lands", "number", "I", false)
  | 1 => ("KingTies$Lands", "worth", "[I", true)
  | 2 => ("KingTies$Lands", "law", "[I", true)
  | 3 => ("KingTies$Lands", "ruler", "[I", true)
  | 4 => ("KingTies$Lands", "changes", "[I", true)
  | 5 => ("KingTies$Lands", "kept", "[I", true)
  | _ => ("KingTies$Lands", "past", "[[I", true)
def tyX1 : Nat → FieldType := fun k => match k with
  | 0 => .int
  | 1 => .array .int
  | 2 => .array .int
  | 3 => .array .int
  | 4 => .array .int
  | 5 => .array .int
  | _ => .array (.array .int)
abbrev wsX10 : List Cond := u_ws RX1 TX1 7
theorem nmX1 : ∀ a, a < 7 → ∀ b, b < 7 → a ≠ b → (TX1 a).2.1 ≠ (TX1 b).2.1 := by decide +kernel
theorem tyX1_ok : ∀ k, k < 7 → parseFieldDescriptor (TX1 k).2.2.1 = some (tyX1 k) := by decide +kernel
abbrev cX1_init : ByteArray := prog_3_method_1_code
def yX1_init : MethodName := ⟨RX1, "<init>", "()V"⟩
abbrev cX1_knows : ByteArray := prog_3_method_2_code
def yX1_knows : MethodName := ⟨RX1, "knows", "(I)Z"⟩
abbrev cX1_isFull : ByteArray := prog_3_method_3_code
def yX1_isFull : MethodName := ⟨RX1, "isFull", "()Z"⟩
abbrev cX1_add : ByteArray := prog_3_method_4_code
def yX1_add : MethodName := ⟨RX1, "add", "(III)I"⟩
abbrev cX1_handTo : ByteArray := prog_3_method_5_code
def yX1_handTo : MethodName := ⟨RX1, "handTo", "(II)V"⟩
abbrev cX1_rulerOf : ByteArray := prog_3_method_6_code
def yX1_rulerOf : MethodName := ⟨RX1, "rulerOf", "(I)I"⟩
abbrev cX1_numberUnder : ByteArray := prog_3_method_7_code
def yX1_numberUnder : MethodName := ⟨RX1, "numberUnder", "(I)I"⟩
abbrev cX1_worthUnder : ByteArray := prog_3_method_8_code
def yX1_worthUnder : MethodName := ⟨RX1, "worthUnder", "(I)I"⟩
abbrev cX1_takeRulers : ByteArray := prog_3_method_9_code
def yX1_takeRulers : MethodName := ⟨RX1, "takeRulers", "(LKingTies$Lands;)V"⟩
def RX2 : String := "KingTies$Lines"
def TX2 : u_T := fun k => match k with
  | 0 => ("KingTies$Lines", "first", "[I", true)
  | _ => ("KingTies$Lines", "through", "[I", true)
def tyX2 : Nat → FieldType := fun k => match k with
  | 0 => .array .int
  | _ => .array .int
abbrev wsX20 : List Cond := u_ws RX2 TX2 2
theorem nmX2 : ∀ a, a < 2 → ∀ b, b < 2 → a ≠ b → (TX2 a).2.1 ≠ (TX2 b).2.1 := by decide +kernel
theorem tyX2_ok : ∀ k, k < 2 → parseFieldDescriptor (TX2 k).2.2.1 = some (tyX2 k) := by decide +kernel
abbrev cX2_init : ByteArray := prog_4_method_1_code
def yX2_init : MethodName := ⟨RX2, "<init>", "()V"⟩
abbrev cX2_clear : ByteArray := prog_4_method_2_code
def yX2_clear : MethodName := ⟨RX2, "clear", "()V"⟩
abbrev cX2_firstOf : ByteArray := prog_4_method_3_code
def yX2_firstOf : MethodName := ⟨RX2, "firstOf", "(I)I"⟩
abbrev cX2_tell : ByteArray := prog_4_method_4_code
def yX2_tell : MethodName := ⟨RX2, "tell", "(LKingTies$Kin;IIII)V"⟩
def RX3 : String := "KingTies$Ties"
def TX3 : u_T := fun k => match k with
  | 0 => ("KingTies$Ties", "spouse", "[I", true)
  | _ => ("KingTies$Ties", "given", "[I", true)
def tyX3 : Nat → FieldType := fun k => match k with
  | 0 => .array .int
  | _ => .array .int
abbrev wsX30 : List Cond := u_ws RX3 TX3 2
theorem nmX3 : ∀ a, a < 2 → ∀ b, b < 2 → a ≠ b → (TX3 a).2.1 ≠ (TX3 b).2.1 := by decide +kernel
theorem tyX3_ok : ∀ k, k < 2 → parseFieldDescriptor (TX3 k).2.2.1 = some (tyX3 k) := by decide +kernel
abbrev cX3_init : ByteArray := prog_5_method_1_code
def yX3_init : MethodName := ⟨RX3, "<init>", "()V"⟩
abbrev cX3_spouseOf : ByteArray := prog_5_method_2_code
def yX3_spouseOf : MethodName := ⟨RX3, "spouseOf", "(I)I"⟩
abbrev cX3_bind : ByteArray := prog_5_method_3_code
def yX3_bind : MethodName := ⟨RX3, "bind", "(II)V"⟩
abbrev cX3_part : ByteArray := prog_5_method_4_code
def yX3_part : MethodName := ⟨RX3, "part", "(I)V"⟩
abbrev cX3_couples : ByteArray := prog_5_method_5_code
def yX3_couples : MethodName := ⟨RX3, "couples", "()I"⟩
def RX4 : String := "KingTies$World"
def TX4 : u_T := fun k => match k with
  | 0 => ("KingTies$World", "kin", "LKingTies$Kin;", true)
  | 1 => ("KingTies$World", "lands", "LKingTies$Lands;", true)
  | 2 => ("KingTies$World", "ties", "LKingTies$Ties;", true)
  | 3 => ("KingTies$World", "lines", "LKingTies$Lines;", true)
  | 4 => ("KingTies$World", "death", "[I", true)
  | _ => ("KingTies$World", "year", "I", false)
def tyX4 : Nat → FieldType := fun k => match k with
  | 0 => .object "KingTies$Kin"
  | 1 => .object "KingTies$Lands"
  | 2 => .object "KingTies$Ties"
  | 3 => .object "KingTies$Lines"
  | 4 => .array .int
  | _ => .int
abbrev wsX40 : List Cond := u_ws RX4 TX4 6
theorem nmX4 : ∀ a, a < 6 → ∀ b, b < 6 → a ≠ b → (TX4 a).2.1 ≠ (TX4 b).2.1 := by decide +kernel
theorem tyX4_ok : ∀ k, k < 6 → parseFieldDescriptor (TX4 k).2.2.1 = some (tyX4 k) := by decide +kernel
abbrev cX4_init : ByteArray := prog_6_method_1_code
def yX4_init : MethodName := ⟨RX4, "<init>", "(LKingTies$Kin;)V"⟩
abbrev cX4_startFrom : ByteArray := prog_6_method_2_code
def yX4_startFrom : MethodName := ⟨RX4, "startFrom", "(LKingTies$World;)V"⟩
abbrev cX4_lives : ByteArray := prog_6_method_3_code
def yX4_lives : MethodName := ⟨RX4, "lives", "(I)Z"⟩
abbrev cX4_age : ByteArray := prog_6_method_4_code
def yX4_age : MethodName := ⟨RX4, "age", "(I)I"⟩
abbrev cX4_isFree : ByteArray := prog_6_method_5_code
def yX4_isFree : MethodName := ⟨RX4, "isFree", "(I)Z"⟩
abbrev cX4_mayMarry : ByteArray := prog_6_method_6_code
def yX4_mayMarry : MethodName := ⟨RX4, "mayMarry", "(II)Z"⟩
abbrev cX4_wed : ByteArray := prog_6_method_7_code
def yX4_wed : MethodName := ⟨RX4, "wed", "(III)V"⟩
abbrev cX4_separate : ByteArray := prog_6_method_8_code
def yX4_separate : MethodName := ⟨RX4, "separate", "(I)I"⟩
abbrev cX4_bury : ByteArray := prog_6_method_9_code
def yX4_bury : MethodName := ⟨RX4, "bury", "(I)I"⟩
abbrev cX4_letPass : ByteArray := prog_6_method_10_code
def yX4_letPass : MethodName := ⟨RX4, "letPass", "(I)I"⟩
abbrev cX4_heirOf : ByteArray := prog_6_method_11_code
def yX4_heirOf : MethodName := ⟨RX4, "heirOf", "(II)I"⟩
abbrev cX4_eldestOfKin : ByteArray := prog_6_method_12_code
def yX4_eldestOfKin : MethodName := ⟨RX4, "eldestOfKin", "(I)I"⟩
abbrev cX4_regentOf : ByteArray := prog_6_method_13_code
def yX4_regentOf : MethodName := ⟨RX4, "regentOf", "(I)I"⟩
abbrev cX4_nearestGrown : ByteArray := prog_6_method_14_code
def yX4_nearestGrown : MethodName := ⟨RX4, "nearestGrown", "(I)I"⟩
abbrev cX4_personFact : ByteArray := prog_6_method_15_code
def yX4_personFact : MethodName := ⟨RX4, "personFact", "(II)I"⟩
abbrev cX4_landFact : ByteArray := prog_6_method_16_code
def yX4_landFact : MethodName := ⟨RX4, "landFact", "(II)I"⟩
abbrev cX4_countFact : ByteArray := prog_6_method_17_code
def yX4_countFact : MethodName := ⟨RX4, "countFact", "(I)I"⟩
abbrev cX4_living : ByteArray := prog_6_method_18_code
def yX4_living : MethodName := ⟨RX4, "living", "()I"⟩
abbrev cX4_rulers : ByteArray := prog_6_method_19_code
def yX4_rulers : MethodName := ⟨RX4, "rulers", "(Z)I"⟩
def RX5 : String := "KingTies"
def TX5 : u_T := fun k => match k with
  | 0 => ("KingTies", "kin", "LKingTies$Kin;", true)
  | 1 => ("KingTies", "now", "LKingTies$World;", true)
  | _ => ("KingTies", "ahead", "LKingTies$World;", true)
def tyX5 : Nat → FieldType := fun k => match k with
  | 0 => .object "KingTies$Kin"
  | 1 => .object "KingTies$World"
  | _ => .object "KingTies$World"
abbrev wsX50 : List Cond := u_ws RX5 TX5 3
theorem nmX5 : ∀ a, a < 3 → ∀ b, b < 3 → a ≠ b → (TX5 a).2.1 ≠ (TX5 b).2.1 := by decide +kernel
theorem tyX5_ok : ∀ k, k < 3 → parseFieldDescriptor (TX5 k).2.2.1 = some (tyX5 k) := by decide +kernel
abbrev cX5_init : ByteArray := prog_1_method_1_code
def yX5_init : MethodName := ⟨RX5, "<init>", "()V"⟩
abbrev cX5_come : ByteArray := prog_1_method_2_code
def yX5_come : MethodName := ⟨RX5, "come", "(ZI)I"⟩
abbrev cX5_bear : ByteArray := prog_1_method_3_code
def yX5_bear : MethodName := ⟨RX5, "bear", "(IZ)I"⟩
abbrev cX5_found : ByteArray := prog_1_method_4_code
def yX5_found : MethodName := ⟨RX5, "found", "(III)I"⟩
abbrev cX5_setLaw : ByteArray := prog_1_method_5_code
def yX5_setLaw : MethodName := ⟨RX5, "setLaw", "(II)I"⟩
abbrev cX5_marry : ByteArray := prog_1_method_6_code
def yX5_marry : MethodName := ⟨RX5, "marry", "(III)I"⟩
abbrev cX5_annul : ByteArray := prog_1_method_7_code
def yX5_annul : MethodName := ⟨RX5, "annul", "(I)I"⟩
abbrev cX5_die : ByteArray := prog_1_method_8_code
def yX5_die : MethodName := ⟨RX5, "die", "(I)I"⟩
abbrev cX5_person : ByteArray := prog_1_method_9_code
def yX5_person : MethodName := ⟨RX5, "person", "(II)I"⟩
abbrev cX5_land : ByteArray := prog_1_method_10_code
def yX5_land : MethodName := ⟨RX5, "land", "(II)I"⟩
abbrev cX5_ruled : ByteArray := prog_1_method_11_code
def yX5_ruled : MethodName := ⟨RX5, "ruled", "(II)I"⟩
abbrev cX5_related : ByteArray := prog_1_method_12_code
def yX5_related : MethodName := ⟨RX5, "related", "(II)I"⟩
abbrev cX5_count : ByteArray := prog_1_method_13_code
def yX5_count : MethodName := ⟨RX5, "count", "(I)I"⟩
abbrev cX5_pass : ByteArray := prog_1_method_14_code
def yX5_pass : MethodName := ⟨RX5, "pass", "(I)I"⟩
abbrev cX5_rules : ByteArray := prog_1_method_15_code
def yX5_rules : MethodName := ⟨RX5, "rules", "(I)I"⟩
abbrev cX5_foresee : ByteArray := prog_1_method_16_code
def yX5_foresee : MethodName := ⟨RX5, "foresee", "(II)I"⟩
abbrev cX5_best : ByteArray := prog_1_method_17_code
def yX5_best : MethodName := ⟨RX5, "best", "(I)I"⟩
abbrev cX5_mean : ByteArray := prog_1_method_18_code
def yX5_mean : MethodName := ⟨RX5, "mean", "()D"⟩
abbrev cX5_digest : ByteArray := prog_1_method_19_code
def yX5_digest : MethodName := ⟨RX5, "digest", "()J"⟩
abbrev cX5_digestedLand : ByteArray := prog_1_method_20_code
def yX5_digestedLand : MethodName := ⟨RX5, "digestedLand", "(JI)J"⟩
abbrev cX5_digested : ByteArray := prog_1_method_21_code
def yX5_digested : MethodName := ⟨RX5, "digested", "(JJ)J"⟩
abbrev cX5_needPerson : ByteArray := prog_1_method_22_code
def yX5_needPerson : MethodName := ⟨RX5, "needPerson", "(I)V"⟩
abbrev cX5_needLand : ByteArray := prog_1_method_23_code
def yX5_needLand : MethodName := ⟨RX5, "needLand", "(I)V"⟩
abbrev cX5_needBelow : ByteArray := prog_1_method_24_code
def yX5_needBelow : MethodName := ⟨RX5, "needBelow", "(II)V"⟩
abbrev cX5_needLaw : ByteArray := prog_1_method_25_code
def yX5_needLaw : MethodName := ⟨RX5, "needLaw", "(I)V"⟩
abbrev cX5_needYears : ByteArray := prog_1_method_26_code
def yX5_needYears : MethodName := ⟨RX5, "needYears", "(I)V"⟩
def RX6 : String := "KingTiesModel"
def TX6 : u_T := fun k => match k with
  | 0 => ("KingTiesModel", "thrown", "I", false)
  | 1 => ("KingTiesModel", "persons", "I", false)
  | 2 => ("KingTiesModel", "lands", "I", false)
  | 3 => ("KingTiesModel", "people", "[I", true)
  | 4 => ("KingTiesModel", "places", "[I", true)
  | 5 => ("KingTiesModel", "rolls", "[I", true)
  | 6 => ("KingTiesModel", "year", "[I", true)
  | 7 => ("KingTiesModel", "upA", "[I", true)
  | 8 => ("KingTiesModel", "upB", "[I", true)
  | _ => ("KingTiesModel", "heirs", "[I", true)
def tyX6 : Nat → FieldType := fun k => match k with
  | 0 => .int
  | 1 => .int
  | 2 => .int
  | 3 => .array .int
  | 4 => .array .int
  | 5 => .array .int
  | 6 => .array .int
  | 7 => .array .int
  | 8 => .array .int
  | _ => .array .int
abbrev wsX60 : List Cond := u_ws RX6 TX6 10
theorem nmX6 : ∀ a, a < 10 → ∀ b, b < 10 → a ≠ b → (TX6 a).2.1 ≠ (TX6 b).2.1 := by decide +kernel
theorem tyX6_ok : ∀ k, k < 10 → parseFieldDescriptor (TX6 k).2.2.1 = some (tyX6 k) := by decide +kernel
abbrev cX6_init : ByteArray := prog_8_method_1_code
def yX6_init : MethodName := ⟨RX6, "<init>", "()V"⟩
abbrev cX6_thrown : ByteArray := prog_8_method_2_code
def yX6_thrown : MethodName := ⟨RX6, "thrown", "()I"⟩
abbrev cX6_fail : ByteArray := prog_8_method_3_code
def yX6_fail : MethodName := ⟨RX6, "fail", "(I)I"⟩
abbrev cX6_isIn : ByteArray := prog_8_method_4_code
def yX6_isIn : MethodName := ⟨RX6, "isIn", "(III)Z"⟩
abbrev cX6_isPerson : ByteArray := prog_8_method_5_code
def yX6_isPerson : MethodName := ⟨RX6, "isPerson", "(I)Z"⟩
abbrev cX6_isLand : ByteArray := prog_8_method_6_code
def yX6_isLand : MethodName := ⟨RX6, "isLand", "(I)Z"⟩
abbrev cX6_pe : ByteArray := prog_8_method_7_code
def yX6_pe : MethodName := ⟨RX6, "pe", "(II)I"⟩
abbrev cX6_set : ByteArray := prog_8_method_8_code
def yX6_set : MethodName := ⟨RX6, "set", "(III)V"⟩
abbrev cX6_la : ByteArray := prog_8_method_9_code
def yX6_la : MethodName := ⟨RX6, "la", "(II)I"⟩
abbrev cX6_lives : ByteArray := prog_8_method_10_code
def yX6_lives : MethodName := ⟨RX6, "lives", "(I)Z"⟩
abbrev cX6_age : ByteArray := prog_8_method_11_code
def yX6_age : MethodName := ⟨RX6, "age", "(I)I"⟩
abbrev cX6_person : ByteArray := prog_8_method_12_code
def yX6_person : MethodName := ⟨RX6, "person", "(IIII)I"⟩
abbrev cX6_come : ByteArray := prog_8_method_13_code
def yX6_come : MethodName := ⟨RX6, "come", "(ZI)I"⟩
abbrev cX6_bear : ByteArray := prog_8_method_14_code
def yX6_bear : MethodName := ⟨RX6, "bear", "(IZ)I"⟩
abbrev cX6_rule : ByteArray := prog_8_method_15_code
def yX6_rule : MethodName := ⟨RX6, "rule", "(II)V"⟩
abbrev cX6_found : ByteArray := prog_8_method_16_code
def yX6_found : MethodName := ⟨RX6, "found", "(III)I"⟩
abbrev cX6_setLaw : ByteArray := prog_8_method_17_code
def yX6_setLaw : MethodName := ⟨RX6, "setLaw", "(II)I"⟩
abbrev cX6_climb : ByteArray := prog_8_method_18_code
def yX6_climb : MethodName := ⟨RX6, "climb", "(I[I)V"⟩
abbrev cX6_steps : ByteArray := prog_8_method_19_code
def yX6_steps : MethodName := ⟨RX6, "steps", "(II)I"⟩
abbrev cX6_isBefore : ByteArray := prog_8_method_20_code
def yX6_isBefore : MethodName := ⟨RX6, "isBefore", "(II)Z"⟩
abbrev cX6_isAhead : ByteArray := prog_8_method_21_code
def yX6_isAhead : MethodName := ⟨RX6, "isAhead", "(III)Z"⟩
abbrev cX6_isChild : ByteArray := prog_8_method_22_code
def yX6_isChild : MethodName := ⟨RX6, "isChild", "(II)Z"⟩
abbrev cX6_nextChild : ByteArray := prog_8_method_23_code
def yX6_nextChild : MethodName := ⟨RX6, "nextChild", "(III)I"⟩
abbrev cX6_first : ByteArray := prog_8_method_24_code
def yX6_first : MethodName := ⟨RX6, "first", "(III)I"⟩
abbrev cX6_oldest : ByteArray := prog_8_method_25_code
def yX6_oldest : MethodName := ⟨RX6, "oldest", "(I)I"⟩
abbrev cX6_heir : ByteArray := prog_8_method_26_code
def yX6_heir : MethodName := ⟨RX6, "heir", "(II)I"⟩
abbrev cX6_regent : ByteArray := prog_8_method_27_code
def yX6_regent : MethodName := ⟨RX6, "regent", "(I)I"⟩
abbrev cX6_worthOf : ByteArray := prog_8_method_28_code
def yX6_worthOf : MethodName := ⟨RX6, "worthOf", "(I)I"⟩
abbrev cX6_isFree : ByteArray := prog_8_method_29_code
def yX6_isFree : MethodName := ⟨RX6, "isFree", "(I)Z"⟩
abbrev cX6_canMarry : ByteArray := prog_8_method_30_code
def yX6_canMarry : MethodName := ⟨RX6, "canMarry", "(II)Z"⟩
abbrev cX6_marry : ByteArray := prog_8_method_31_code
def yX6_marry : MethodName := ⟨RX6, "marry", "(III)I"⟩
abbrev cX6_part : ByteArray := prog_8_method_32_code
def yX6_part : MethodName := ⟨RX6, "part", "(I)V"⟩
abbrev cX6_annul : ByteArray := prog_8_method_33_code
def yX6_annul : MethodName := ⟨RX6, "annul", "(I)I"⟩
abbrev cX6_dies : ByteArray := prog_8_method_34_code
def yX6_dies : MethodName := ⟨RX6, "dies", "(I)I"⟩
abbrev cX6_die : ByteArray := prog_8_method_35_code
def yX6_die : MethodName := ⟨RX6, "die", "(I)I"⟩
abbrev cX6_personTold : ByteArray := prog_8_method_36_code
def yX6_personTold : MethodName := ⟨RX6, "personTold", "(II)I"⟩
abbrev cX6_person_ : ByteArray := prog_8_method_37_code
def yX6_person_ : MethodName := ⟨RX6, "person", "(II)I"⟩
abbrev cX6_landTold : ByteArray := prog_8_method_38_code
def yX6_landTold : MethodName := ⟨RX6, "landTold", "(II)I"⟩
abbrev cX6_land : ByteArray := prog_8_method_39_code
def yX6_land : MethodName := ⟨RX6, "land", "(II)I"⟩
abbrev cX6_kept : ByteArray := prog_8_method_40_code
def yX6_kept : MethodName := ⟨RX6, "kept", "(I)I"⟩
abbrev cX6_ruled : ByteArray := prog_8_method_41_code
def yX6_ruled : MethodName := ⟨RX6, "ruled", "(II)I"⟩
abbrev cX6_related : ByteArray := prog_8_method_42_code
def yX6_related : MethodName := ⟨RX6, "related", "(II)I"⟩
abbrev cX6_rulesNow : ByteArray := prog_8_method_43_code
def yX6_rulesNow : MethodName := ⟨RX6, "rulesNow", "(I)Z"⟩
abbrev cX6_counted : ByteArray := prog_8_method_44_code
def yX6_counted : MethodName := ⟨RX6, "counted", "(I)I"⟩
abbrev cX6_count : ByteArray := prog_8_method_45_code
def yX6_count : MethodName := ⟨RX6, "count", "(I)I"⟩
abbrev cX6_yearOn : ByteArray := prog_8_method_46_code
def yX6_yearOn : MethodName := ⟨RX6, "yearOn", "()I"⟩
abbrev cX6_yearsOn : ByteArray := prog_8_method_47_code
def yX6_yearsOn : MethodName := ⟨RX6, "yearsOn", "(I)I"⟩
abbrev cX6_pass : ByteArray := prog_8_method_48_code
def yX6_pass : MethodName := ⟨RX6, "pass", "(I)I"⟩
abbrev cX6_kept_ : ByteArray := prog_8_method_49_code
def yX6_kept_ : MethodName := ⟨RX6, "kept", "()[[I"⟩
abbrev cX6_bringBack : ByteArray := prog_8_method_50_code
def yX6_bringBack : MethodName := ⟨RX6, "bringBack", "([[I)V"⟩
abbrev cX6_rules : ByteArray := prog_8_method_51_code
def yX6_rules : MethodName := ⟨RX6, "rules", "(I)I"⟩
abbrev cX6_foresee : ByteArray := prog_8_method_52_code
def yX6_foresee : MethodName := ⟨RX6, "foresee", "(II)I"⟩
abbrev cX6_best : ByteArray := prog_8_method_53_code
def yX6_best : MethodName := ⟨RX6, "best", "(I)I"⟩
abbrev cX6_mean : ByteArray := prog_8_method_54_code
def yX6_mean : MethodName := ⟨RX6, "mean", "()D"⟩
abbrev cX6_digest : ByteArray := prog_8_method_55_code
def yX6_digest : MethodName := ⟨RX6, "digest", "()J"⟩
def RJx145de : String := "java/io/Serializable"
def TJx145de : u_T := fun k => match k with
  | _ => ("", "", "", false)
def tyJx145de : Nat → FieldType := fun k => match k with
  | _ => .int
abbrev wsJx145de0 : List Cond := u_ws RJx145de TJx145de 0
theorem nmJx145de : ∀ a, a < 0 → ∀ b, b < 0 → a ≠ b → (TJx145de a).2.1 ≠ (TJx145de b).2.1 := by decide +kernel
theorem tyJx145de_ok : ∀ k, k < 0 → parseFieldDescriptor (TJx145de k).2.2.1 = some (tyJx145de k) := by decide +kernel
def RJx8e188 : String := "java/lang/Cloneable"
def TJx8e188 : u_T := fun k => match k with
  | _ => ("", "", "", false)
def tyJx8e188 : Nat → FieldType := fun k => match k with
  | _ => .int
abbrev wsJx8e1880 : List Cond := u_ws RJx8e188 TJx8e188 0
theorem nmJx8e188 : ∀ a, a < 0 → ∀ b, b < 0 → a ≠ b → (TJx8e188 a).2.1 ≠ (TJx8e188 b).2.1 := by decide +kernel
theorem tyJx8e188_ok : ∀ k, k < 0 → parseFieldDescriptor (TJx8e188 k).2.2.1 = some (tyJx8e188 k) := by decide +kernel
def RJ9 : String := "java/lang/Math"
def TJ9 : u_T := fun k => match k with
  | _ => ("", "", "", false)
def tyJ9 : Nat → FieldType := fun k => match k with
  | _ => .int
abbrev wsJ90 : List Cond := u_ws RJ9 TJ9 0
theorem nmJ9 : ∀ a, a < 0 → ∀ b, b < 0 → a ≠ b → (TJ9 a).2.1 ≠ (TJ9 b).2.1 := by decide +kernel
theorem tyJ9_ok : ∀ k, k < 0 → parseFieldDescriptor (TJ9 k).2.2.1 = some (tyJ9 k) := by decide +kernel
abbrev cJ9_min_7cf53 : ByteArray := prog_14_method_69_code
def yJ9_min_7cf53 : MethodName := ⟨RJ9, "min", "(II)I"⟩
def RJ0 : String := "java/lang/String"
def TJ0 : u_T := fun k => match k with
  | _ => ("", "", "", false)
def tyJ0 : Nat → FieldType := fun k => match k with
  | _ => .int
abbrev wsJ00 : List Cond := u_ws RJ0 TJ0 0
theorem nmJ0 : ∀ a, a < 0 → ∀ b, b < 0 → a ≠ b → (TJ0 a).2.1 ≠ (TJ0 b).2.1 := by decide +kernel
theorem tyJ0_ok : ∀ k, k < 0 → parseFieldDescriptor (TJ0 k).2.2.1 = some (tyJ0 k) := by decide +kernel
def RJ10 : String := "java/lang/System"
def TJ10 : u_T := fun k => match k with
  | _ => ("", "", "", false)
def tyJ10 : Nat → FieldType := fun k => match k with
  | _ => .int
abbrev wsJ100 : List Cond := u_ws RJ10 TJ10 0
theorem nmJ10 : ∀ a, a < 0 → ∀ b, b < 0 → a ≠ b → (TJ10 a).2.1 ≠ (TJ10 b).2.1 := by decide +kernel
theorem tyJ10_ok : ∀ k, k < 0 → parseFieldDescriptor (TJ10 k).2.2.1 = some (tyJ10 k) := by decide +kernel
def RJ7 : String := "java/util/Arrays"
def TJ7 : u_T := fun k => match k with
  | _ => ("", "", "", false)
def tyJ7 : Nat → FieldType := fun k => match k with
  | _ => .int
abbrev wsJ70 : List Cond := u_ws RJ7 TJ7 0
theorem nmJ7 : ∀ a, a < 0 → ∀ b, b < 0 → a ≠ b → (TJ7 a).2.1 ≠ (TJ7 b).2.1 := by decide +kernel
theorem tyJ7_ok : ∀ k, k < 0 → parseFieldDescriptor (TJ7 k).2.2.1 = some (tyJ7 k) := by decide +kernel
abbrev cJ7_fill_53178 : ByteArray := prog_19_method_103_code
def yJ7_fill_53178 : MethodName := ⟨RJ7, "fill", "([II)V"⟩
def RL : String := "KingTiesLaw"
abbrev cL_come : ByteArray := method_3_code
def yL_come : MethodName := ⟨RL, "come", "(LKingTies;ZI[J)I"⟩
abbrev cL_bear : ByteArray := method_4_code
def yL_bear : MethodName := ⟨RL, "bear", "(LKingTies;IZ[J)I"⟩
abbrev cL_found : ByteArray := method_5_code
def yL_found : MethodName := ⟨RL, "found", "(LKingTies;III[J)I"⟩
abbrev cL_setLaw : ByteArray := method_6_code
def yL_setLaw : MethodName := ⟨RL, "setLaw", "(LKingTies;II[J)I"⟩
abbrev cL_marry : ByteArray := method_7_code
def yL_marry : MethodName := ⟨RL, "marry", "(LKingTies;III[J)I"⟩
abbrev cL_annul : ByteArray := method_8_code
def yL_annul : MethodName := ⟨RL, "annul", "(LKingTies;I[J)I"⟩
abbrev cL_die : ByteArray := method_9_code
def yL_die : MethodName := ⟨RL, "die", "(LKingTies;I[J)I"⟩
abbrev cL_person : ByteArray := method_10_code
def yL_person : MethodName := ⟨RL, "person", "(LKingTies;II[J)I"⟩
abbrev cL_land : ByteArray := method_11_code
def yL_land : MethodName := ⟨RL, "land", "(LKingTies;II[J)I"⟩
abbrev cL_ruled : ByteArray := method_12_code
def yL_ruled : MethodName := ⟨RL, "ruled", "(LKingTies;II[J)I"⟩
abbrev cL_related : ByteArray := method_13_code
def yL_related : MethodName := ⟨RL, "related", "(LKingTies;II[J)I"⟩
abbrev cL_count : ByteArray := method_14_code
def yL_count : MethodName := ⟨RL, "count", "(LKingTies;I[J)I"⟩
abbrev cL_pass : ByteArray := method_15_code
def yL_pass : MethodName := ⟨RL, "pass", "(LKingTies;I[J)I"⟩
abbrev cL_rules : ByteArray := method_16_code
def yL_rules : MethodName := ⟨RL, "rules", "(LKingTies;I[J)I"⟩
abbrev cL_foresee : ByteArray := method_17_code
def yL_foresee : MethodName := ⟨RL, "foresee", "(LKingTies;II[J)I"⟩
abbrev cL_best : ByteArray := method_18_code
def yL_best : MethodName := ⟨RL, "best", "(LKingTies;I[J)I"⟩
abbrev cL_law : ByteArray := code
def yL_law : MethodName := ⟨RL, "law", "([I)Z"⟩
abbrev vwCl : List vw_C := [(RX0, TX0, 6), (RX1, TX1, 7), (RX2, TX2, 2), (RX3, TX3, 2), (RX4, TX4, 6), (RX5, TX5, 3), (RX6, TX6, 10)]
end
section
/-! WORDS OF THE TABLES: the good ones of lw_tbl; each that is used, by its place (written by a program out of the tables) -/
def kWA : List Cond := lw_tbl.filter goodWord
theorem kmem {w : Cond} (i : Nat) (h : lw_tbl[i]? = some w) (g : goodWord w = true) : w ∈ kWA := List.mem_filter.mpr ⟨List.mem_of_getElem? h, g⟩
theorem kWA_tbl : ∀ w ∈ kWA, w ∈ lw_tbl := fun _ h => (List.mem_filter.mp h).1
theorem kWA_good : ∀ w ∈ kWA, (w.onTables && w.keeps) = true ∨ ∃ ty, w = .arrayClass ty := fun _ h => good_of_word (List.mem_filter.mp h).2
theorem kc_L_8 : Cond.classLink RL 8 "KingTies" ∈ kWA := kmem 62 (by decide +kernel) (by decide +kernel)
theorem ki_X5 : Cond.instantiable RX5 3 ∈ kWA := kmem 63 (by decide +kernel) (by decide +kernel)
theorem kl_L_68 : Cond.methodLink RL 68 yX5_init ∈ kWA := kmem 64 (by decide +kernel) (by decide +kernel)
theorem kl_X5_1 : Cond.methodLink RX5 1 objectInit ∈ kWA := kmem 67 (by decide +kernel) (by decide +kernel)
theorem kc_X5_7 : Cond.classLink RX5 7 "KingTies$Kin" ∈ kWA := kmem 70 (by decide +kernel) (by decide +kernel)
theorem ki_X0 : Cond.instantiable RX0 6 ∈ kWA := kmem 71 (by decide +kernel) (by decide +kernel)
theorem kl_X0_3 : Cond.methodLink RX0 3 objectInit ∈ kWA := kmem 75 (by decide +kernel) (by decide +kernel)
theorem kc_X0_29 : Cond.classLink RX0 29 "[[I" ∈ kWA := kmem 76 (by decide +kernel) (by decide +kernel)
theorem kf_X0_9 : Cond.fieldLink RX0 9 "KingTies$Kin" "persons" "I" ∈ kWA := kmem 78 (by decide +kernel) (by decide +kernel)
theorem kf_X4_119 : Cond.fieldLink RX4 119 "KingTies$Kin" "persons" "I" ∈ kWA := kmem 79 (by decide +kernel) (by decide +kernel)
theorem kf_X5_167 : Cond.fieldLink RX5 167 "KingTies$Kin" "persons" "I" ∈ kWA := kmem 80 (by decide +kernel) (by decide +kernel)
theorem kf_X0_15 : Cond.fieldLink RX0 15 "KingTies$Kin" "male" "[Z" ∈ kWA := kmem 81 (by decide +kernel) (by decide +kernel)
theorem kf_X5_66 : Cond.fieldLink RX5 66 "KingTies$Kin" "male" "[Z" ∈ kWA := kmem 82 (by decide +kernel) (by decide +kernel)
theorem kf_X4_82 : Cond.fieldLink RX4 82 "KingTies$Kin" "male" "[Z" ∈ kWA := kmem 83 (by decide +kernel) (by decide +kernel)
theorem kf_X0_19 : Cond.fieldLink RX0 19 "KingTies$Kin" "birth" "[I" ∈ kWA := kmem 84 (by decide +kernel) (by decide +kernel)
theorem kf_X4_66 : Cond.fieldLink RX4 66 "KingTies$Kin" "birth" "[I" ∈ kWA := kmem 85 (by decide +kernel) (by decide +kernel)
theorem kf_X0_23 : Cond.fieldLink RX0 23 "KingTies$Kin" "mother" "[I" ∈ kWA := kmem 86 (by decide +kernel) (by decide +kernel)
theorem kf_X4_134 : Cond.fieldLink RX4 134 "KingTies$Kin" "mother" "[I" ∈ kWA := kmem 87 (by decide +kernel) (by decide +kernel)
theorem kf_X0_26 : Cond.fieldLink RX0 26 "KingTies$Kin" "father" "[I" ∈ kWA := kmem 88 (by decide +kernel) (by decide +kernel)
theorem kf_X4_141 : Cond.fieldLink RX4 141 "KingTies$Kin" "father" "[I" ∈ kWA := kmem 89 (by decide +kernel) (by decide +kernel)
theorem kf_X0_31 : Cond.fieldLink RX0 31 "KingTies$Kin" "steps" "[[I" ∈ kWA := kmem 90 (by decide +kernel) (by decide +kernel)
theorem kf_X5_148 : Cond.fieldLink RX5 148 "KingTies$Kin" "steps" "[[I" ∈ kWA := kmem 91 (by decide +kernel) (by decide +kernel)
theorem kc_X5_16 : Cond.classLink RX5 16 "KingTies$World" ∈ kWA := kmem 107 (by decide +kernel) (by decide +kernel)
theorem ki_X4 : Cond.instantiable RX4 6 ∈ kWA := kmem 108 (by decide +kernel) (by decide +kernel)
theorem kl_X5_18 : Cond.methodLink RX5 18 yX4_init ∈ kWA := kmem 109 (by decide +kernel) (by decide +kernel)
theorem kl_X4_3 : Cond.methodLink RX4 3 objectInit ∈ kWA := kmem 112 (by decide +kernel) (by decide +kernel)
theorem kc_X4_9 : Cond.classLink RX4 9 "KingTies$Lands" ∈ kWA := kmem 113 (by decide +kernel) (by decide +kernel)
theorem ki_X1 : Cond.instantiable RX1 7 ∈ kWA := kmem 114 (by decide +kernel) (by decide +kernel)
theorem kl_X1_3 : Cond.methodLink RX1 3 objectInit ∈ kWA := kmem 118 (by decide +kernel) (by decide +kernel)
theorem kc_X1_31 : Cond.classLink RX1 31 "[[I" ∈ kWA := kmem 119 (by decide +kernel) (by decide +kernel)
theorem kf_X1_9 : Cond.fieldLink RX1 9 "KingTies$Lands" "number" "I" ∈ kWA := kmem 120 (by decide +kernel) (by decide +kernel)
theorem kf_X4_107 : Cond.fieldLink RX4 107 "KingTies$Lands" "number" "I" ∈ kWA := kmem 121 (by decide +kernel) (by decide +kernel)
theorem kf_X5_179 : Cond.fieldLink RX5 179 "KingTies$Lands" "number" "I" ∈ kWA := kmem 122 (by decide +kernel) (by decide +kernel)
theorem kf_X1_15 : Cond.fieldLink RX1 15 "KingTies$Lands" "worth" "[I" ∈ kWA := kmem 123 (by decide +kernel) (by decide +kernel)
theorem kf_X4_160 : Cond.fieldLink RX4 160 "KingTies$Lands" "worth" "[I" ∈ kWA := kmem 124 (by decide +kernel) (by decide +kernel)
theorem kf_X1_19 : Cond.fieldLink RX1 19 "KingTies$Lands" "law" "[I" ∈ kWA := kmem 125 (by decide +kernel) (by decide +kernel)
theorem kf_X5_98 : Cond.fieldLink RX5 98 "KingTies$Lands" "law" "[I" ∈ kWA := kmem 126 (by decide +kernel) (by decide +kernel)
theorem kf_X4_113 : Cond.fieldLink RX4 113 "KingTies$Lands" "law" "[I" ∈ kWA := kmem 127 (by decide +kernel) (by decide +kernel)
theorem kf_X1_22 : Cond.fieldLink RX1 22 "KingTies$Lands" "ruler" "[I" ∈ kWA := kmem 128 (by decide +kernel) (by decide +kernel)
theorem kf_X4_110 : Cond.fieldLink RX4 110 "KingTies$Lands" "ruler" "[I" ∈ kWA := kmem 129 (by decide +kernel) (by decide +kernel)
theorem kf_X1_25 : Cond.fieldLink RX1 25 "KingTies$Lands" "changes" "[I" ∈ kWA := kmem 130 (by decide +kernel) (by decide +kernel)
theorem kf_X4_166 : Cond.fieldLink RX4 166 "KingTies$Lands" "changes" "[I" ∈ kWA := kmem 131 (by decide +kernel) (by decide +kernel)
theorem kf_X1_28 : Cond.fieldLink RX1 28 "KingTies$Lands" "kept" "[I" ∈ kWA := kmem 132 (by decide +kernel) (by decide +kernel)
theorem kf_X5_141 : Cond.fieldLink RX5 141 "KingTies$Lands" "kept" "[I" ∈ kWA := kmem 133 (by decide +kernel) (by decide +kernel)
theorem kf_X1_33 : Cond.fieldLink RX1 33 "KingTies$Lands" "past" "[[I" ∈ kWA := kmem 134 (by decide +kernel) (by decide +kernel)
theorem kf_X5_144 : Cond.fieldLink RX5 144 "KingTies$Lands" "past" "[[I" ∈ kWA := kmem 135 (by decide +kernel) (by decide +kernel)
theorem kc_X4_18 : Cond.classLink RX4 18 "KingTies$Ties" ∈ kWA := kmem 151 (by decide +kernel) (by decide +kernel)
theorem ki_X3 : Cond.instantiable RX3 2 ∈ kWA := kmem 152 (by decide +kernel) (by decide +kernel)
theorem kl_X4_20 : Cond.methodLink RX4 20 yX3_init ∈ kWA := kmem 153 (by decide +kernel) (by decide +kernel)
theorem kl_X3_3 : Cond.methodLink RX3 3 objectInit ∈ kWA := kmem 156 (by decide +kernel) (by decide +kernel)
theorem kl_X3_18 : Cond.methodLink RX3 18 yJ7_fill_53178 ∈ kWA := kmem 157 (by decide +kernel) (by decide +kernel)
theorem kf_X3_9 : Cond.fieldLink RX3 9 "KingTies$Ties" "spouse" "[I" ∈ kWA := kmem 160 (by decide +kernel) (by decide +kernel)
theorem kf_X3_15 : Cond.fieldLink RX3 15 "KingTies$Ties" "given" "[I" ∈ kWA := kmem 161 (by decide +kernel) (by decide +kernel)
theorem kf_X4_97 : Cond.fieldLink RX4 97 "KingTies$Ties" "given" "[I" ∈ kWA := kmem 162 (by decide +kernel) (by decide +kernel)
theorem kc_X4_25 : Cond.classLink RX4 25 "KingTies$Lines" ∈ kWA := kmem 168 (by decide +kernel) (by decide +kernel)
theorem ki_X2 : Cond.instantiable RX2 2 ∈ kWA := kmem 169 (by decide +kernel) (by decide +kernel)
theorem kl_X2_3 : Cond.methodLink RX2 3 objectInit ∈ kWA := kmem 173 (by decide +kernel) (by decide +kernel)
theorem kf_X2_9 : Cond.fieldLink RX2 9 "KingTies$Lines" "first" "[I" ∈ kWA := kmem 174 (by decide +kernel) (by decide +kernel)
theorem kf_X2_15 : Cond.fieldLink RX2 15 "KingTies$Lines" "through" "[I" ∈ kWA := kmem 175 (by decide +kernel) (by decide +kernel)
theorem kl_X4_44 : Cond.methodLink RX4 44 yJ7_fill_53178 ∈ kWA := kmem 181 (by decide +kernel) (by decide +kernel)
theorem kf_X4_40 : Cond.fieldLink RX4 40 "KingTies$World" "kin" "LKingTies$Kin;" ∈ kWA := kmem 182 (by decide +kernel) (by decide +kernel)
theorem kf_X4_12 : Cond.fieldLink RX4 12 "KingTies$World" "lands" "LKingTies$Lands;" ∈ kWA := kmem 183 (by decide +kernel) (by decide +kernel)
theorem kf_X5_81 : Cond.fieldLink RX5 81 "KingTies$World" "lands" "LKingTies$Lands;" ∈ kWA := kmem 184 (by decide +kernel) (by decide +kernel)
theorem kf_X4_21 : Cond.fieldLink RX4 21 "KingTies$World" "ties" "LKingTies$Ties;" ∈ kWA := kmem 185 (by decide +kernel) (by decide +kernel)
theorem kf_X5_56 : Cond.fieldLink RX5 56 "KingTies$World" "ties" "LKingTies$Ties;" ∈ kWA := kmem 186 (by decide +kernel) (by decide +kernel)
theorem kf_X4_28 : Cond.fieldLink RX4 28 "KingTies$World" "lines" "LKingTies$Lines;" ∈ kWA := kmem 187 (by decide +kernel) (by decide +kernel)
theorem kf_X4_32 : Cond.fieldLink RX4 32 "KingTies$World" "death" "[I" ∈ kWA := kmem 188 (by decide +kernel) (by decide +kernel)
theorem kf_X4_36 : Cond.fieldLink RX4 36 "KingTies$World" "year" "I" ∈ kWA := kmem 189 (by decide +kernel) (by decide +kernel)
theorem kf_X5_44 : Cond.fieldLink RX5 44 "KingTies$World" "year" "I" ∈ kWA := kmem 190 (by decide +kernel) (by decide +kernel)
theorem kf_X5_10 : Cond.fieldLink RX5 10 "KingTies" "kin" "LKingTies$Kin;" ∈ kWA := kmem 204 (by decide +kernel) (by decide +kernel)
theorem kf_X5_21 : Cond.fieldLink RX5 21 "KingTies" "now" "LKingTies$World;" ∈ kWA := kmem 205 (by decide +kernel) (by decide +kernel)
theorem kf_X5_25 : Cond.fieldLink RX5 25 "KingTies" "ahead" "LKingTies$World;" ∈ kWA := kmem 206 (by decide +kernel) (by decide +kernel)
theorem kl_L_131 : Cond.methodLink RL 131 yX5_mean ∈ kWA := kmem 214 (by decide +kernel) (by decide +kernel)
theorem kl_X5_70 : Cond.methodLink RX5 70 yX4_lives ∈ kWA := kmem 218 (by decide +kernel) (by decide +kernel)
theorem kl_X4_60 : Cond.methodLink RX4 60 yX0_knows ∈ kWA := kmem 222 (by decide +kernel) (by decide +kernel)
theorem kl_X5_170 : Cond.methodLink RX5 170 yX4_age ∈ kWA := kmem 226 (by decide +kernel) (by decide +kernel)
theorem kl_L_136 : Cond.methodLink RL 136 yX5_digest ∈ kWA := kmem 230 (by decide +kernel) (by decide +kernel)
theorem kn_X5_173 : Cond.constantLong RX5 173 (887) ∈ kWA := kmem 234 (by decide +kernel) (by decide +kernel)
theorem kl_X5_151 : Cond.methodLink RX5 151 yX4_countFact ∈ kWA := kmem 235 (by decide +kernel) (by decide +kernel)
theorem kl_X4_169 : Cond.methodLink RX4 169 yX4_living ∈ kWA := kmem 239 (by decide +kernel) (by decide +kernel)
theorem kl_X4_69 : Cond.methodLink RX4 69 yX4_lives ∈ kWA := kmem 243 (by decide +kernel) (by decide +kernel)
theorem kl_X4_173 : Cond.methodLink RX4 173 yX3_couples ∈ kWA := kmem 244 (by decide +kernel) (by decide +kernel)
theorem kl_X4_154 : Cond.methodLink RX4 154 yX1_numberUnder ∈ kWA := kmem 248 (by decide +kernel) (by decide +kernel)
theorem kl_X4_176 : Cond.methodLink RX4 176 yX4_rulers ∈ kWA := kmem 252 (by decide +kernel) (by decide +kernel)
theorem kl_X4_72 : Cond.methodLink RX4 72 yX4_age ∈ kWA := kmem 256 (by decide +kernel) (by decide +kernel)
theorem kl_X5_175 : Cond.methodLink RX5 175 yX5_digested ∈ kWA := kmem 257 (by decide +kernel) (by decide +kernel)
theorem kn_X5_186 : Cond.constantLong RX5 186 (31) ∈ kWA := kmem 260 (by decide +kernel) (by decide +kernel)
theorem kl_X5_134 : Cond.methodLink RX5 134 yX4_personFact ∈ kWA := kmem 261 (by decide +kernel) (by decide +kernel)
theorem kl_X4_76 : Cond.methodLink RX4 76 yX3_spouseOf ∈ kWA := kmem 265 (by decide +kernel) (by decide +kernel)
theorem kl_X4_151 : Cond.methodLink RX4 151 yX0_childrenOf ∈ kWA := kmem 269 (by decide +kernel) (by decide +kernel)
theorem kl_X4_157 : Cond.methodLink RX4 157 yX1_worthUnder ∈ kWA := kmem 273 (by decide +kernel) (by decide +kernel)
theorem kl_X5_182 : Cond.methodLink RX5 182 yX5_digestedLand ∈ kWA := kmem 277 (by decide +kernel) (by decide +kernel)
theorem kl_X5_138 : Cond.methodLink RX5 138 yX4_landFact ∈ kWA := kmem 281 (by decide +kernel) (by decide +kernel)
theorem kl_X4_163 : Cond.methodLink RX4 163 yX4_regentOf ∈ kWA := kmem 285 (by decide +kernel) (by decide +kernel)
theorem kl_X4_148 : Cond.methodLink RX4 148 yX4_nearestGrown ∈ kWA := kmem 289 (by decide +kernel) (by decide +kernel)
theorem kl_X4_86 : Cond.methodLink RX4 86 yX0_stepsBetween ∈ kWA := kmem 293 (by decide +kernel) (by decide +kernel)
theorem kl_X0_51 : Cond.methodLink RX0 51 yX0_knows ∈ kWA := kmem 297 (by decide +kernel) (by decide +kernel)
theorem kl_X4_144 : Cond.methodLink RX4 144 yX0_isBefore ∈ kWA := kmem 298 (by decide +kernel) (by decide +kernel)
theorem kl_X4_116 : Cond.methodLink RX4 116 yX4_heirOf ∈ kWA := kmem 302 (by decide +kernel) (by decide +kernel)
theorem kl_X4_125 : Cond.methodLink RX4 125 yX4_eldestOfKin ∈ kWA := kmem 306 (by decide +kernel) (by decide +kernel)
theorem kl_X4_128 : Cond.methodLink RX4 128 yX2_clear ∈ kWA := kmem 310 (by decide +kernel) (by decide +kernel)
theorem kl_X2_18 : Cond.methodLink RX2 18 yJ7_fill_53178 ∈ kWA := kmem 314 (by decide +kernel) (by decide +kernel)
theorem kl_X4_131 : Cond.methodLink RX4 131 yX2_firstOf ∈ kWA := kmem 315 (by decide +kernel) (by decide +kernel)
theorem kl_X4_137 : Cond.methodLink RX4 137 yX2_tell ∈ kWA := kmem 319 (by decide +kernel) (by decide +kernel)
theorem kl_X2_24 : Cond.methodLink RX2 24 yX0_knows ∈ kWA := kmem 323 (by decide +kernel) (by decide +kernel)
theorem kl_X2_30 : Cond.methodLink RX2 30 yX0_isAhead ∈ kWA := kmem 324 (by decide +kernel) (by decide +kernel)
theorem kl_X0_55 : Cond.methodLink RX0 55 yX0_isBefore ∈ kWA := kmem 328 (by decide +kernel) (by decide +kernel)
theorem kl_L_72 : Cond.methodLink RL 72 yL_come ∈ kWA := kmem 329 (by decide +kernel) (by decide +kernel)
theorem kc_L_13 : Cond.classLink RL 13 "java/lang/IllegalArgumentException" ∈ kWA := kmem 332 (by decide +kernel) (by decide +kernel)
theorem kc_L_15 : Cond.classLink RL 15 "java/lang/IllegalStateException" ∈ kWA := kmem 333 (by decide +kernel) (by decide +kernel)
theorem kl_L_7 : Cond.methodLink RL 7 yX5_come ∈ kWA := kmem 334 (by decide +kernel) (by decide +kernel)
theorem kc_X5_28 : Cond.classLink RX5 28 "java/lang/IllegalArgumentException" ∈ kWA := kmem 338 (by decide +kernel) (by decide +kernel)
theorem kl_X5_35 : Cond.methodLink RX5 35 yX0_isFull ∈ kWA := kmem 406 (by decide +kernel) (by decide +kernel)
theorem kc_X5_39 : Cond.classLink RX5 39 "java/lang/IllegalStateException" ∈ kWA := kmem 410 (by decide +kernel) (by decide +kernel)
theorem kl_X5_48 : Cond.methodLink RX5 48 yX0_add ∈ kWA := kmem 426 (by decide +kernel) (by decide +kernel)
theorem kl_X0_34 : Cond.methodLink RX0 34 yX0_isFull ∈ kWA := kmem 430 (by decide +kernel) (by decide +kernel)
theorem kl_X0_38 : Cond.methodLink RX0 38 yX0_stepsThroughParents ∈ kWA := kmem 431 (by decide +kernel) (by decide +kernel)
theorem kl_X0_42 : Cond.methodLink RX0 42 yX0_stepsBetween ∈ kWA := kmem 435 (by decide +kernel) (by decide +kernel)
theorem kl_X0_46 : Cond.methodLink RX0 46 yJ9_min_7cf53 ∈ kWA := kmem 436 (by decide +kernel) (by decide +kernel)
theorem kl_L_82 : Cond.methodLink RL 82 yL_bear ∈ kWA := kmem 439 (by decide +kernel) (by decide +kernel)
theorem kc_L_21 : Cond.classLink RL 21 "java/lang/IndexOutOfBoundsException" ∈ kWA := kmem 442 (by decide +kernel) (by decide +kernel)
theorem kl_L_17 : Cond.methodLink RL 17 yX5_bear ∈ kWA := kmem 443 (by decide +kernel) (by decide +kernel)
theorem kl_X5_52 : Cond.methodLink RX5 52 yX5_needPerson ∈ kWA := kmem 447 (by decide +kernel) (by decide +kernel)
theorem kl_X5_188 : Cond.methodLink RX5 188 yX0_knows ∈ kWA := kmem 451 (by decide +kernel) (by decide +kernel)
theorem kc_X5_191 : Cond.classLink RX5 191 "java/lang/IndexOutOfBoundsException" ∈ kWA := kmem 452 (by decide +kernel) (by decide +kernel)
theorem kl_X5_60 : Cond.methodLink RX5 60 yX3_spouseOf ∈ kWA := kmem 468 (by decide +kernel) (by decide +kernel)
theorem kl_L_86 : Cond.methodLink RL 86 yL_found ∈ kWA := kmem 470 (by decide +kernel) (by decide +kernel)
theorem kl_L_23 : Cond.methodLink RL 23 yX5_found ∈ kWA := kmem 473 (by decide +kernel) (by decide +kernel)
theorem kl_X5_78 : Cond.methodLink RX5 78 yX5_needLaw ∈ kWA := kmem 478 (by decide +kernel) (by decide +kernel)
theorem kl_X5_85 : Cond.methodLink RX5 85 yX1_isFull ∈ kWA := kmem 482 (by decide +kernel) (by decide +kernel)
theorem kl_X5_92 : Cond.methodLink RX5 92 yX1_add ∈ kWA := kmem 488 (by decide +kernel) (by decide +kernel)
theorem kl_X1_36 : Cond.methodLink RX1 36 yX1_isFull ∈ kWA := kmem 492 (by decide +kernel) (by decide +kernel)
theorem kl_X1_40 : Cond.methodLink RX1 40 yX1_handTo ∈ kWA := kmem 493 (by decide +kernel) (by decide +kernel)
theorem kl_X1_44 : Cond.methodLink RX1 44 arraycopyName ∈ kWA := kmem 497 (by decide +kernel) (by decide +kernel)
theorem kl_X1_50 : Cond.methodLink RX1 50 yJ9_min_7cf53 ∈ kWA := kmem 500 (by decide +kernel) (by decide +kernel)
theorem kl_L_90 : Cond.methodLink RL 90 yL_setLaw ∈ kWA := kmem 501 (by decide +kernel) (by decide +kernel)
theorem kl_L_27 : Cond.methodLink RL 27 yX5_setLaw ∈ kWA := kmem 504 (by decide +kernel) (by decide +kernel)
theorem kl_X5_95 : Cond.methodLink RX5 95 yX5_needLand ∈ kWA := kmem 508 (by decide +kernel) (by decide +kernel)
theorem kl_X5_196 : Cond.methodLink RX5 196 yX1_knows ∈ kWA := kmem 512 (by decide +kernel) (by decide +kernel)
theorem kl_L_94 : Cond.methodLink RL 94 yL_marry ∈ kWA := kmem 517 (by decide +kernel) (by decide +kernel)
theorem kl_L_31 : Cond.methodLink RL 31 yX5_marry ∈ kWA := kmem 520 (by decide +kernel) (by decide +kernel)
theorem kl_X5_102 : Cond.methodLink RX5 102 yX4_mayMarry ∈ kWA := kmem 524 (by decide +kernel) (by decide +kernel)
theorem kl_X4_79 : Cond.methodLink RX4 79 yX4_isFree ∈ kWA := kmem 528 (by decide +kernel) (by decide +kernel)
theorem kl_X5_108 : Cond.methodLink RX5 108 yX1_rulerOf ∈ kWA := kmem 533 (by decide +kernel) (by decide +kernel)
theorem kl_X1_56 : Cond.methodLink RX1 56 yX1_knows ∈ kWA := kmem 537 (by decide +kernel) (by decide +kernel)
theorem kl_X5_113 : Cond.methodLink RX5 113 yX4_wed ∈ kWA := kmem 539 (by decide +kernel) (by decide +kernel)
theorem kl_X4_90 : Cond.methodLink RX4 90 yX3_bind ∈ kWA := kmem 543 (by decide +kernel) (by decide +kernel)
theorem kl_X4_94 : Cond.methodLink RX4 94 yX1_rulerOf ∈ kWA := kmem 547 (by decide +kernel) (by decide +kernel)
theorem kl_X4_100 : Cond.methodLink RX4 100 yX1_handTo ∈ kWA := kmem 548 (by decide +kernel) (by decide +kernel)
theorem kl_X5_117 : Cond.methodLink RX5 117 yX1_worthUnder ∈ kWA := kmem 549 (by decide +kernel) (by decide +kernel)
theorem kl_L_97 : Cond.methodLink RL 97 yL_annul ∈ kWA := kmem 550 (by decide +kernel) (by decide +kernel)
theorem kl_L_34 : Cond.methodLink RL 34 yX5_annul ∈ kWA := kmem 553 (by decide +kernel) (by decide +kernel)
theorem kl_X5_122 : Cond.methodLink RX5 122 yX4_separate ∈ kWA := kmem 558 (by decide +kernel) (by decide +kernel)
theorem kl_X4_103 : Cond.methodLink RX4 103 yX3_part ∈ kWA := kmem 562 (by decide +kernel) (by decide +kernel)
theorem kl_X3_24 : Cond.methodLink RX3 24 yX3_spouseOf ∈ kWA := kmem 566 (by decide +kernel) (by decide +kernel)
theorem kl_L_101 : Cond.methodLink RL 101 yL_die ∈ kWA := kmem 567 (by decide +kernel) (by decide +kernel)
theorem kl_L_38 : Cond.methodLink RL 38 yX5_die ∈ kWA := kmem 570 (by decide +kernel) (by decide +kernel)
theorem kl_X5_127 : Cond.methodLink RX5 127 yX4_bury ∈ kWA := kmem 575 (by decide +kernel) (by decide +kernel)
theorem kl_L_104 : Cond.methodLink RL 104 yL_person ∈ kWA := kmem 579 (by decide +kernel) (by decide +kernel)
theorem kl_L_41 : Cond.methodLink RL 41 yX5_person ∈ kWA := kmem 582 (by decide +kernel) (by decide +kernel)
theorem kl_X5_130 : Cond.methodLink RX5 130 yX5_needBelow ∈ kWA := kmem 586 (by decide +kernel) (by decide +kernel)
theorem kl_L_107 : Cond.methodLink RL 107 yL_land ∈ kWA := kmem 590 (by decide +kernel) (by decide +kernel)
theorem kl_L_44 : Cond.methodLink RL 44 yX5_land ∈ kWA := kmem 593 (by decide +kernel) (by decide +kernel)
theorem kl_L_110 : Cond.methodLink RL 110 yL_ruled ∈ kWA := kmem 597 (by decide +kernel) (by decide +kernel)
theorem kl_L_47 : Cond.methodLink RL 47 yX5_ruled ∈ kWA := kmem 600 (by decide +kernel) (by decide +kernel)
theorem kl_L_113 : Cond.methodLink RL 113 yL_related ∈ kWA := kmem 604 (by decide +kernel) (by decide +kernel)
theorem kl_L_50 : Cond.methodLink RL 50 yX5_related ∈ kWA := kmem 607 (by decide +kernel) (by decide +kernel)
theorem kl_L_116 : Cond.methodLink RL 116 yL_count ∈ kWA := kmem 611 (by decide +kernel) (by decide +kernel)
theorem kl_L_53 : Cond.methodLink RL 53 yX5_count ∈ kWA := kmem 614 (by decide +kernel) (by decide +kernel)
theorem kl_L_119 : Cond.methodLink RL 119 yL_pass ∈ kWA := kmem 618 (by decide +kernel) (by decide +kernel)
theorem kl_L_56 : Cond.methodLink RL 56 yX5_pass ∈ kWA := kmem 621 (by decide +kernel) (by decide +kernel)
theorem kl_X5_154 : Cond.methodLink RX5 154 yX5_needYears ∈ kWA := kmem 625 (by decide +kernel) (by decide +kernel)
theorem kl_X5_157 : Cond.methodLink RX5 157 yX4_letPass ∈ kWA := kmem 629 (by decide +kernel) (by decide +kernel)
theorem kl_X4_122 : Cond.methodLink RX4 122 yX4_bury ∈ kWA := kmem 633 (by decide +kernel) (by decide +kernel)
theorem kl_L_122 : Cond.methodLink RL 122 yL_rules ∈ kWA := kmem 634 (by decide +kernel) (by decide +kernel)
theorem kl_L_59 : Cond.methodLink RL 59 yX5_rules ∈ kWA := kmem 637 (by decide +kernel) (by decide +kernel)
theorem kl_X5_160 : Cond.methodLink RX5 160 yX4_startFrom ∈ kWA := kmem 641 (by decide +kernel) (by decide +kernel)
theorem kl_X4_50 : Cond.methodLink RX4 50 arraycopyName ∈ kWA := kmem 645 (by decide +kernel) (by decide +kernel)
theorem kl_X4_56 : Cond.methodLink RX4 56 yX1_takeRulers ∈ kWA := kmem 646 (by decide +kernel) (by decide +kernel)
theorem kl_X5_164 : Cond.methodLink RX5 164 yX1_numberUnder ∈ kWA := kmem 650 (by decide +kernel) (by decide +kernel)
theorem kl_L_125 : Cond.methodLink RL 125 yL_foresee ∈ kWA := kmem 651 (by decide +kernel) (by decide +kernel)
theorem kl_L_62 : Cond.methodLink RL 62 yX5_foresee ∈ kWA := kmem 654 (by decide +kernel) (by decide +kernel)
theorem kl_L_128 : Cond.methodLink RL 128 yL_best ∈ kWA := kmem 658 (by decide +kernel) (by decide +kernel)
theorem kl_L_65 : Cond.methodLink RL 65 yX5_best ∈ kWA := kmem 661 (by decide +kernel) (by decide +kernel)
theorem kc_L_69 : Cond.classLink RL 69 "KingTiesModel" ∈ kWA := kmem 665 (by decide +kernel) (by decide +kernel)
theorem ki_X6 : Cond.instantiable RX6 10 ∈ kWA := kmem 666 (by decide +kernel) (by decide +kernel)
theorem kl_L_71 : Cond.methodLink RL 71 yX6_init ∈ kWA := kmem 667 (by decide +kernel) (by decide +kernel)
theorem kl_X6_1 : Cond.methodLink RX6 1 objectInit ∈ kWA := kmem 670 (by decide +kernel) (by decide +kernel)
theorem kf_X6_31 : Cond.fieldLink RX6 31 "KingTiesModel" "thrown" "I" ∈ kWA := kmem 671 (by decide +kernel) (by decide +kernel)
theorem kf_X6_35 : Cond.fieldLink RX6 35 "KingTiesModel" "persons" "I" ∈ kWA := kmem 672 (by decide +kernel) (by decide +kernel)
theorem kf_X6_42 : Cond.fieldLink RX6 42 "KingTiesModel" "lands" "I" ∈ kWA := kmem 673 (by decide +kernel) (by decide +kernel)
theorem kf_X6_9 : Cond.fieldLink RX6 9 "KingTiesModel" "people" "[I" ∈ kWA := kmem 674 (by decide +kernel) (by decide +kernel)
theorem kf_X6_13 : Cond.fieldLink RX6 13 "KingTiesModel" "places" "[I" ∈ kWA := kmem 675 (by decide +kernel) (by decide +kernel)
theorem kf_X6_16 : Cond.fieldLink RX6 16 "KingTiesModel" "rolls" "[I" ∈ kWA := kmem 676 (by decide +kernel) (by decide +kernel)
theorem kf_X6_19 : Cond.fieldLink RX6 19 "KingTiesModel" "year" "[I" ∈ kWA := kmem 677 (by decide +kernel) (by decide +kernel)
theorem kf_X6_22 : Cond.fieldLink RX6 22 "KingTiesModel" "upA" "[I" ∈ kWA := kmem 678 (by decide +kernel) (by decide +kernel)
theorem kf_X6_25 : Cond.fieldLink RX6 25 "KingTiesModel" "upB" "[I" ∈ kWA := kmem 679 (by decide +kernel) (by decide +kernel)
theorem kf_X6_28 : Cond.fieldLink RX6 28 "KingTiesModel" "heirs" "[I" ∈ kWA := kmem 680 (by decide +kernel) (by decide +kernel)
theorem kl_L_78 : Cond.methodLink RL 78 yX6_thrown ∈ kWA := kmem 702 (by decide +kernel) (by decide +kernel)
theorem kl_L_77 : Cond.methodLink RL 77 yX6_come ∈ kWA := kmem 706 (by decide +kernel) (by decide +kernel)
theorem kl_X6_38 : Cond.methodLink RX6 38 yX6_isIn ∈ kWA := kmem 710 (by decide +kernel) (by decide +kernel)
theorem kl_X6_55 : Cond.methodLink RX6 55 yX6_fail ∈ kWA := kmem 713 (by decide +kernel) (by decide +kernel)
theorem kl_X6_59 : Cond.methodLink RX6 59 yX6_person ∈ kWA := kmem 717 (by decide +kernel) (by decide +kernel)
theorem kl_X6_49 : Cond.methodLink RX6 49 arraycopyName ∈ kWA := kmem 721 (by decide +kernel) (by decide +kernel)
theorem kl_L_85 : Cond.methodLink RL 85 yX6_bear ∈ kWA := kmem 722 (by decide +kernel) (by decide +kernel)
theorem kl_X6_63 : Cond.methodLink RX6 63 yX6_isPerson ∈ kWA := kmem 726 (by decide +kernel) (by decide +kernel)
theorem kl_X6_45 : Cond.methodLink RX6 45 yX6_pe ∈ kWA := kmem 730 (by decide +kernel) (by decide +kernel)
theorem kl_X6_67 : Cond.methodLink RX6 67 yX6_lives ∈ kWA := kmem 734 (by decide +kernel) (by decide +kernel)
theorem kl_L_89 : Cond.methodLink RL 89 yX6_found ∈ kWA := kmem 738 (by decide +kernel) (by decide +kernel)
theorem kl_X6_70 : Cond.methodLink RX6 70 yX6_rule ∈ kWA := kmem 742 (by decide +kernel) (by decide +kernel)
theorem kl_L_93 : Cond.methodLink RL 93 yX6_setLaw ∈ kWA := kmem 746 (by decide +kernel) (by decide +kernel)
theorem kl_X6_74 : Cond.methodLink RX6 74 yX6_isLand ∈ kWA := kmem 750 (by decide +kernel) (by decide +kernel)
theorem kl_X6_77 : Cond.methodLink RX6 77 yX6_la ∈ kWA := kmem 754 (by decide +kernel) (by decide +kernel)
theorem kl_L_96 : Cond.methodLink RL 96 yX6_marry ∈ kWA := kmem 758 (by decide +kernel) (by decide +kernel)
theorem kl_X6_118 : Cond.methodLink RX6 118 yX6_canMarry ∈ kWA := kmem 762 (by decide +kernel) (by decide +kernel)
theorem kl_X6_115 : Cond.methodLink RX6 115 yX6_isFree ∈ kWA := kmem 766 (by decide +kernel) (by decide +kernel)
theorem kl_X6_112 : Cond.methodLink RX6 112 yX6_age ∈ kWA := kmem 770 (by decide +kernel) (by decide +kernel)
theorem kl_X6_106 : Cond.methodLink RX6 106 yX6_steps ∈ kWA := kmem 774 (by decide +kernel) (by decide +kernel)
theorem kl_X6_85 : Cond.methodLink RX6 85 yX6_climb ∈ kWA := kmem 778 (by decide +kernel) (by decide +kernel)
theorem kl_X6_80 : Cond.methodLink RX6 80 yJ9_min_7cf53 ∈ kWA := kmem 782 (by decide +kernel) (by decide +kernel)
theorem kl_X6_121 : Cond.methodLink RX6 121 yX6_set ∈ kWA := kmem 783 (by decide +kernel) (by decide +kernel)
theorem kl_X6_125 : Cond.methodLink RX6 125 yX6_worthOf ∈ kWA := kmem 787 (by decide +kernel) (by decide +kernel)
theorem kl_L_100 : Cond.methodLink RL 100 yX6_annul ∈ kWA := kmem 791 (by decide +kernel) (by decide +kernel)
theorem kl_X6_128 : Cond.methodLink RX6 128 yX6_part ∈ kWA := kmem 795 (by decide +kernel) (by decide +kernel)
theorem kl_L_103 : Cond.methodLink RL 103 yX6_die ∈ kWA := kmem 799 (by decide +kernel) (by decide +kernel)
theorem kl_X6_135 : Cond.methodLink RX6 135 yX6_dies ∈ kWA := kmem 803 (by decide +kernel) (by decide +kernel)
theorem kl_X6_132 : Cond.methodLink RX6 132 yX6_heir ∈ kWA := kmem 807 (by decide +kernel) (by decide +kernel)
theorem kl_X6_109 : Cond.methodLink RX6 109 yX6_oldest ∈ kWA := kmem 811 (by decide +kernel) (by decide +kernel)
theorem kl_X6_89 : Cond.methodLink RX6 89 yX6_isBefore ∈ kWA := kmem 815 (by decide +kernel) (by decide +kernel)
theorem kl_X6_103 : Cond.methodLink RX6 103 yX6_first ∈ kWA := kmem 819 (by decide +kernel) (by decide +kernel)
theorem kl_X6_99 : Cond.methodLink RX6 99 yX6_nextChild ∈ kWA := kmem 823 (by decide +kernel) (by decide +kernel)
theorem kl_X6_93 : Cond.methodLink RX6 93 yX6_isChild ∈ kWA := kmem 827 (by decide +kernel) (by decide +kernel)
theorem kl_X6_96 : Cond.methodLink RX6 96 yX6_isAhead ∈ kWA := kmem 831 (by decide +kernel) (by decide +kernel)
theorem kl_L_106 : Cond.methodLink RL 106 yX6_person_ ∈ kWA := kmem 835 (by decide +kernel) (by decide +kernel)
theorem kl_X6_138 : Cond.methodLink RX6 138 yX6_personTold ∈ kWA := kmem 839 (by decide +kernel) (by decide +kernel)
theorem kl_L_109 : Cond.methodLink RL 109 yX6_land ∈ kWA := kmem 843 (by decide +kernel) (by decide +kernel)
theorem kl_X6_144 : Cond.methodLink RX6 144 yX6_landTold ∈ kWA := kmem 847 (by decide +kernel) (by decide +kernel)
theorem kl_X6_141 : Cond.methodLink RX6 141 yX6_regent ∈ kWA := kmem 851 (by decide +kernel) (by decide +kernel)
theorem kl_L_112 : Cond.methodLink RL 112 yX6_ruled ∈ kWA := kmem 855 (by decide +kernel) (by decide +kernel)
theorem kl_X6_147 : Cond.methodLink RX6 147 yX6_kept ∈ kWA := kmem 859 (by decide +kernel) (by decide +kernel)
theorem kl_L_115 : Cond.methodLink RL 115 yX6_related ∈ kWA := kmem 863 (by decide +kernel) (by decide +kernel)
theorem kl_L_118 : Cond.methodLink RL 118 yX6_count ∈ kWA := kmem 867 (by decide +kernel) (by decide +kernel)
theorem kl_X6_153 : Cond.methodLink RX6 153 yX6_counted ∈ kWA := kmem 871 (by decide +kernel) (by decide +kernel)
theorem kl_X6_150 : Cond.methodLink RX6 150 yX6_rulesNow ∈ kWA := kmem 875 (by decide +kernel) (by decide +kernel)
theorem kl_L_121 : Cond.methodLink RL 121 yX6_pass ∈ kWA := kmem 879 (by decide +kernel) (by decide +kernel)
theorem kl_X6_160 : Cond.methodLink RX6 160 yX6_yearsOn ∈ kWA := kmem 883 (by decide +kernel) (by decide +kernel)
theorem kl_X6_156 : Cond.methodLink RX6 156 yX6_yearOn ∈ kWA := kmem 887 (by decide +kernel) (by decide +kernel)
theorem kl_L_124 : Cond.methodLink RL 124 yX6_rules ∈ kWA := kmem 891 (by decide +kernel) (by decide +kernel)
theorem kl_X6_168 : Cond.methodLink RX6 168 yX6_kept_ ∈ kWA := kmem 895 (by decide +kernel) (by decide +kernel)
theorem kc_X6_163 : Cond.classLink RX6 163 "[I" ∈ kWA := kmem 899 (by decide +kernel) (by decide +kernel)
theorem kl_X6_171 : Cond.methodLink RX6 171 yX6_bringBack ∈ kWA := kmem 906 (by decide +kernel) (by decide +kernel)
theorem kl_L_127 : Cond.methodLink RL 127 yX6_foresee ∈ kWA := kmem 910 (by decide +kernel) (by decide +kernel)
theorem kl_L_130 : Cond.methodLink RL 130 yX6_best ∈ kWA := kmem 914 (by decide +kernel) (by decide +kernel)
theorem kl_L_135 : Cond.methodLink RL 135 yX6_mean ∈ kWA := kmem 918 (by decide +kernel) (by decide +kernel)
theorem kl_L_140 : Cond.methodLink RL 140 yX6_digest ∈ kWA := kmem 922 (by decide +kernel) (by decide +kernel)
theorem kn_X6_175 : Cond.constantLong RX6 175 (887) ∈ kWA := kmem 926 (by decide +kernel) (by decide +kernel)
theorem kn_X6_177 : Cond.constantLong RX6 177 (31) ∈ kWA := kmem 927 (by decide +kernel) (by decide +kernel)
theorem kz_L : Cond.initialized RL ∈ kWA := kmem 45 (by decide +kernel) (by decide +kernel)
theorem kz_X5 : Cond.initialized RX5 ∈ kWA := kmem 46 (by decide +kernel) (by decide +kernel)
theorem kz_X0 : Cond.initialized RX0 ∈ kWA := kmem 47 (by decide +kernel) (by decide +kernel)
theorem kz_X4 : Cond.initialized RX4 ∈ kWA := kmem 48 (by decide +kernel) (by decide +kernel)
theorem kz_X1 : Cond.initialized RX1 ∈ kWA := kmem 49 (by decide +kernel) (by decide +kernel)
theorem kz_X3 : Cond.initialized RX3 ∈ kWA := kmem 50 (by decide +kernel) (by decide +kernel)
theorem kz_J7 : Cond.initialized RJ7 ∈ kWA := kmem 51 (by decide +kernel) (by decide +kernel)
theorem kz_X2 : Cond.initialized RX2 ∈ kWA := kmem 52 (by decide +kernel) (by decide +kernel)
theorem kz_X6 : Cond.initialized RX6 ∈ kWA := kmem 53 (by decide +kernel) (by decide +kernel)
theorem kz_Throwable : Cond.initialized "java/lang/Throwable" ∈ kWA := kmem 54 (by decide +kernel) (by decide +kernel)
theorem kz_Exception : Cond.initialized "java/lang/Exception" ∈ kWA := kmem 55 (by decide +kernel) (by decide +kernel)
theorem kz_RuntimeException : Cond.initialized "java/lang/RuntimeException" ∈ kWA := kmem 56 (by decide +kernel) (by decide +kernel)
theorem kz_IllegalArgumentException : Cond.initialized "java/lang/IllegalArgumentException" ∈ kWA := kmem 57 (by decide +kernel) (by decide +kernel)
theorem kz_IllegalStateException : Cond.initialized "java/lang/IllegalStateException" ∈ kWA := kmem 58 (by decide +kernel) (by decide +kernel)
theorem kz_Math : Cond.initialized "java/lang/Math" ∈ kWA := kmem 59 (by decide +kernel) (by decide +kernel)
theorem kz_System : Cond.initialized "java/lang/System" ∈ kWA := kmem 60 (by decide +kernel) (by decide +kernel)
theorem kz_IndexOutOfBoundsException : Cond.initialized "java/lang/IndexOutOfBoundsException" ∈ kWA := kmem 61 (by decide +kernel) (by decide +kernel)
theorem kA_boolean : Cond.arrayClass .boolean ∈ kWA := kmem 105 (by decide +kernel) (by decide +kernel)
theorem kA_int : Cond.arrayClass .int ∈ kWA := kmem 106 (by decide +kernel) (by decide +kernel)
theorem kA_byte : Cond.arrayClass .byte ∈ kWA := kmem 405 (by decide +kernel) (by decide +kernel)
theorem kA_long : Cond.arrayClass .long ∈ kWA := kmem 928 (by decide +kernel) (by decide +kernel)
theorem kd_yX4_living : Cond.code yX4_living cX4_living 3 (some .int) ∈ kWA := kmem 242 (by decide +kernel) (by decide +kernel)
theorem kinst_yX4_living : Cond.instanceMethod yX4_living ∈ kWA := kmem 241 (by decide +kernel) (by decide +kernel)
theorem ksel_yX4_living : Cond.selects RX4 yX4_living yX4_living ∈ kWA := kmem 0 (by decide +kernel) (by decide +kernel)
theorem kd_yX4_rulers : Cond.code yX4_rulers cX4_rulers 4 (some .int) ∈ kWA := kmem 255 (by decide +kernel) (by decide +kernel)
theorem kinst_yX4_rulers : Cond.instanceMethod yX4_rulers ∈ kWA := kmem 254 (by decide +kernel) (by decide +kernel)
theorem ksel_yX4_rulers : Cond.selects RX4 yX4_rulers yX4_rulers ∈ kWA := kmem 1 (by decide +kernel) (by decide +kernel)
theorem kd_yX5_digestedLand : Cond.code yX5_digestedLand cX5_digestedLand 7 (some .long) ∈ kWA := kmem 280 (by decide +kernel) (by decide +kernel)
theorem kinst_yX5_digestedLand : Cond.instanceMethod yX5_digestedLand ∈ kWA := kmem 279 (by decide +kernel) (by decide +kernel)
theorem ksel_yX5_digestedLand : Cond.selects RX5 yX5_digestedLand yX5_digestedLand ∈ kWA := kmem 2 (by decide +kernel) (by decide +kernel)
theorem kd_yX4_regentOf : Cond.code yX4_regentOf cX4_regentOf 2 (some .int) ∈ kWA := kmem 288 (by decide +kernel) (by decide +kernel)
theorem kinst_yX4_regentOf : Cond.instanceMethod yX4_regentOf ∈ kWA := kmem 287 (by decide +kernel) (by decide +kernel)
theorem ksel_yX4_regentOf : Cond.selects RX4 yX4_regentOf yX4_regentOf ∈ kWA := kmem 3 (by decide +kernel) (by decide +kernel)
theorem kd_yX4_nearestGrown : Cond.code yX4_nearestGrown cX4_nearestGrown 6 (some .int) ∈ kWA := kmem 292 (by decide +kernel) (by decide +kernel)
theorem kinst_yX4_nearestGrown : Cond.instanceMethod yX4_nearestGrown ∈ kWA := kmem 291 (by decide +kernel) (by decide +kernel)
theorem ksel_yX4_nearestGrown : Cond.selects RX4 yX4_nearestGrown yX4_nearestGrown ∈ kWA := kmem 4 (by decide +kernel) (by decide +kernel)
theorem kd_yX4_eldestOfKin : Cond.code yX4_eldestOfKin cX4_eldestOfKin 4 (some .int) ∈ kWA := kmem 309 (by decide +kernel) (by decide +kernel)
theorem kinst_yX4_eldestOfKin : Cond.instanceMethod yX4_eldestOfKin ∈ kWA := kmem 308 (by decide +kernel) (by decide +kernel)
theorem ksel_yX4_eldestOfKin : Cond.selects RX4 yX4_eldestOfKin yX4_eldestOfKin ∈ kWA := kmem 5 (by decide +kernel) (by decide +kernel)
theorem kd_yX0_stepsThroughParents : Cond.code yX0_stepsThroughParents cX0_stepsThroughParents 6 (some .int) ∈ kWA := kmem 434 (by decide +kernel) (by decide +kernel)
theorem kinst_yX0_stepsThroughParents : Cond.instanceMethod yX0_stepsThroughParents ∈ kWA := kmem 433 (by decide +kernel) (by decide +kernel)
theorem ksel_yX0_stepsThroughParents : Cond.selects RX0 yX0_stepsThroughParents yX0_stepsThroughParents ∈ kWA := kmem 7 (by decide +kernel) (by decide +kernel)
theorem kd_yX5_needPerson : Cond.code yX5_needPerson cX5_needPerson 2 none ∈ kWA := kmem 450 (by decide +kernel) (by decide +kernel)
theorem kinst_yX5_needPerson : Cond.instanceMethod yX5_needPerson ∈ kWA := kmem 449 (by decide +kernel) (by decide +kernel)
theorem ksel_yX5_needPerson : Cond.selects RX5 yX5_needPerson yX5_needPerson ∈ kWA := kmem 8 (by decide +kernel) (by decide +kernel)
theorem kd_yX5_needLand : Cond.code yX5_needLand cX5_needLand 2 none ∈ kWA := kmem 511 (by decide +kernel) (by decide +kernel)
theorem kinst_yX5_needLand : Cond.instanceMethod yX5_needLand ∈ kWA := kmem 510 (by decide +kernel) (by decide +kernel)
theorem ksel_yX5_needLand : Cond.selects RX5 yX5_needLand yX5_needLand ∈ kWA := kmem 9 (by decide +kernel) (by decide +kernel)
theorem kd_yX4_isFree : Cond.code yX4_isFree cX4_isFree 2 (some .boolean) ∈ kWA := kmem 531 (by decide +kernel) (by decide +kernel)
theorem kinst_yX4_isFree : Cond.instanceMethod yX4_isFree ∈ kWA := kmem 530 (by decide +kernel) (by decide +kernel)
theorem ksel_yX4_isFree : Cond.selects RX4 yX4_isFree yX4_isFree ∈ kWA := kmem 10 (by decide +kernel) (by decide +kernel)
theorem kd_yX6_fail : Cond.code yX6_fail cX6_fail 2 (some .int) ∈ kWA := kmem 716 (by decide +kernel) (by decide +kernel)
theorem kinst_yX6_fail : Cond.instanceMethod yX6_fail ∈ kWA := kmem 715 (by decide +kernel) (by decide +kernel)
theorem ksel_yX6_fail : Cond.selects RX6 yX6_fail yX6_fail ∈ kWA := kmem 11 (by decide +kernel) (by decide +kernel)
theorem kd_yX6_person : Cond.code yX6_person cX6_person 6 (some .int) ∈ kWA := kmem 720 (by decide +kernel) (by decide +kernel)
theorem kinst_yX6_person : Cond.instanceMethod yX6_person ∈ kWA := kmem 719 (by decide +kernel) (by decide +kernel)
theorem ksel_yX6_person : Cond.selects RX6 yX6_person yX6_person ∈ kWA := kmem 12 (by decide +kernel) (by decide +kernel)
theorem kd_yX6_isPerson : Cond.code yX6_isPerson cX6_isPerson 2 (some .boolean) ∈ kWA := kmem 729 (by decide +kernel) (by decide +kernel)
theorem kinst_yX6_isPerson : Cond.instanceMethod yX6_isPerson ∈ kWA := kmem 728 (by decide +kernel) (by decide +kernel)
theorem ksel_yX6_isPerson : Cond.selects RX6 yX6_isPerson yX6_isPerson ∈ kWA := kmem 13 (by decide +kernel) (by decide +kernel)
theorem kd_yX6_pe : Cond.code yX6_pe cX6_pe 3 (some .int) ∈ kWA := kmem 733 (by decide +kernel) (by decide +kernel)
theorem kinst_yX6_pe : Cond.instanceMethod yX6_pe ∈ kWA := kmem 732 (by decide +kernel) (by decide +kernel)
theorem ksel_yX6_pe : Cond.selects RX6 yX6_pe yX6_pe ∈ kWA := kmem 14 (by decide +kernel) (by decide +kernel)
theorem kd_yX6_lives : Cond.code yX6_lives cX6_lives 2 (some .boolean) ∈ kWA := kmem 737 (by decide +kernel) (by decide +kernel)
theorem kinst_yX6_lives : Cond.instanceMethod yX6_lives ∈ kWA := kmem 736 (by decide +kernel) (by decide +kernel)
theorem ksel_yX6_lives : Cond.selects RX6 yX6_lives yX6_lives ∈ kWA := kmem 15 (by decide +kernel) (by decide +kernel)
theorem kd_yX6_rule : Cond.code yX6_rule cX6_rule 3 none ∈ kWA := kmem 745 (by decide +kernel) (by decide +kernel)
theorem kinst_yX6_rule : Cond.instanceMethod yX6_rule ∈ kWA := kmem 744 (by decide +kernel) (by decide +kernel)
theorem ksel_yX6_rule : Cond.selects RX6 yX6_rule yX6_rule ∈ kWA := kmem 16 (by decide +kernel) (by decide +kernel)
theorem kd_yX6_isLand : Cond.code yX6_isLand cX6_isLand 2 (some .boolean) ∈ kWA := kmem 753 (by decide +kernel) (by decide +kernel)
theorem kinst_yX6_isLand : Cond.instanceMethod yX6_isLand ∈ kWA := kmem 752 (by decide +kernel) (by decide +kernel)
theorem ksel_yX6_isLand : Cond.selects RX6 yX6_isLand yX6_isLand ∈ kWA := kmem 17 (by decide +kernel) (by decide +kernel)
theorem kd_yX6_la : Cond.code yX6_la cX6_la 3 (some .int) ∈ kWA := kmem 757 (by decide +kernel) (by decide +kernel)
theorem kinst_yX6_la : Cond.instanceMethod yX6_la ∈ kWA := kmem 756 (by decide +kernel) (by decide +kernel)
theorem ksel_yX6_la : Cond.selects RX6 yX6_la yX6_la ∈ kWA := kmem 18 (by decide +kernel) (by decide +kernel)
theorem kd_yX6_canMarry : Cond.code yX6_canMarry cX6_canMarry 3 (some .boolean) ∈ kWA := kmem 765 (by decide +kernel) (by decide +kernel)
theorem kinst_yX6_canMarry : Cond.instanceMethod yX6_canMarry ∈ kWA := kmem 764 (by decide +kernel) (by decide +kernel)
theorem ksel_yX6_canMarry : Cond.selects RX6 yX6_canMarry yX6_canMarry ∈ kWA := kmem 19 (by decide +kernel) (by decide +kernel)
theorem kd_yX6_isFree : Cond.code yX6_isFree cX6_isFree 2 (some .boolean) ∈ kWA := kmem 769 (by decide +kernel) (by decide +kernel)
theorem kinst_yX6_isFree : Cond.instanceMethod yX6_isFree ∈ kWA := kmem 768 (by decide +kernel) (by decide +kernel)
theorem ksel_yX6_isFree : Cond.selects RX6 yX6_isFree yX6_isFree ∈ kWA := kmem 20 (by decide +kernel) (by decide +kernel)
theorem kd_yX6_age : Cond.code yX6_age cX6_age 2 (some .int) ∈ kWA := kmem 773 (by decide +kernel) (by decide +kernel)
theorem kinst_yX6_age : Cond.instanceMethod yX6_age ∈ kWA := kmem 772 (by decide +kernel) (by decide +kernel)
theorem ksel_yX6_age : Cond.selects RX6 yX6_age yX6_age ∈ kWA := kmem 21 (by decide +kernel) (by decide +kernel)
theorem kd_yX6_steps : Cond.code yX6_steps cX6_steps 5 (some .int) ∈ kWA := kmem 777 (by decide +kernel) (by decide +kernel)
theorem kinst_yX6_steps : Cond.instanceMethod yX6_steps ∈ kWA := kmem 776 (by decide +kernel) (by decide +kernel)
theorem ksel_yX6_steps : Cond.selects RX6 yX6_steps yX6_steps ∈ kWA := kmem 22 (by decide +kernel) (by decide +kernel)
theorem kd_yX6_climb : Cond.code yX6_climb cX6_climb 4 none ∈ kWA := kmem 781 (by decide +kernel) (by decide +kernel)
theorem kinst_yX6_climb : Cond.instanceMethod yX6_climb ∈ kWA := kmem 780 (by decide +kernel) (by decide +kernel)
theorem ksel_yX6_climb : Cond.selects RX6 yX6_climb yX6_climb ∈ kWA := kmem 23 (by decide +kernel) (by decide +kernel)
theorem kd_yX6_set : Cond.code yX6_set cX6_set 4 none ∈ kWA := kmem 786 (by decide +kernel) (by decide +kernel)
theorem kinst_yX6_set : Cond.instanceMethod yX6_set ∈ kWA := kmem 785 (by decide +kernel) (by decide +kernel)
theorem ksel_yX6_set : Cond.selects RX6 yX6_set yX6_set ∈ kWA := kmem 24 (by decide +kernel) (by decide +kernel)
theorem kd_yX6_worthOf : Cond.code yX6_worthOf cX6_worthOf 4 (some .int) ∈ kWA := kmem 790 (by decide +kernel) (by decide +kernel)
theorem kinst_yX6_worthOf : Cond.instanceMethod yX6_worthOf ∈ kWA := kmem 789 (by decide +kernel) (by decide +kernel)
theorem ksel_yX6_worthOf : Cond.selects RX6 yX6_worthOf yX6_worthOf ∈ kWA := kmem 25 (by decide +kernel) (by decide +kernel)
theorem kd_yX6_part : Cond.code yX6_part cX6_part 7 none ∈ kWA := kmem 798 (by decide +kernel) (by decide +kernel)
theorem kinst_yX6_part : Cond.instanceMethod yX6_part ∈ kWA := kmem 797 (by decide +kernel) (by decide +kernel)
theorem ksel_yX6_part : Cond.selects RX6 yX6_part yX6_part ∈ kWA := kmem 26 (by decide +kernel) (by decide +kernel)
theorem kd_yX6_dies : Cond.code yX6_dies cX6_dies 4 (some .int) ∈ kWA := kmem 806 (by decide +kernel) (by decide +kernel)
theorem kinst_yX6_dies : Cond.instanceMethod yX6_dies ∈ kWA := kmem 805 (by decide +kernel) (by decide +kernel)
theorem ksel_yX6_dies : Cond.selects RX6 yX6_dies yX6_dies ∈ kWA := kmem 27 (by decide +kernel) (by decide +kernel)
theorem kd_yX6_heir : Cond.code yX6_heir cX6_heir 4 (some .int) ∈ kWA := kmem 810 (by decide +kernel) (by decide +kernel)
theorem kinst_yX6_heir : Cond.instanceMethod yX6_heir ∈ kWA := kmem 809 (by decide +kernel) (by decide +kernel)
theorem ksel_yX6_heir : Cond.selects RX6 yX6_heir yX6_heir ∈ kWA := kmem 28 (by decide +kernel) (by decide +kernel)
theorem kd_yX6_oldest : Cond.code yX6_oldest cX6_oldest 4 (some .int) ∈ kWA := kmem 814 (by decide +kernel) (by decide +kernel)
theorem kinst_yX6_oldest : Cond.instanceMethod yX6_oldest ∈ kWA := kmem 813 (by decide +kernel) (by decide +kernel)
theorem ksel_yX6_oldest : Cond.selects RX6 yX6_oldest yX6_oldest ∈ kWA := kmem 29 (by decide +kernel) (by decide +kernel)
theorem kd_yX6_isBefore : Cond.code yX6_isBefore cX6_isBefore 3 (some .boolean) ∈ kWA := kmem 818 (by decide +kernel) (by decide +kernel)
theorem kinst_yX6_isBefore : Cond.instanceMethod yX6_isBefore ∈ kWA := kmem 817 (by decide +kernel) (by decide +kernel)
theorem ksel_yX6_isBefore : Cond.selects RX6 yX6_isBefore yX6_isBefore ∈ kWA := kmem 30 (by decide +kernel) (by decide +kernel)
theorem kd_yX6_first : Cond.code yX6_first cX6_first 6 (some .int) ∈ kWA := kmem 822 (by decide +kernel) (by decide +kernel)
theorem kinst_yX6_first : Cond.instanceMethod yX6_first ∈ kWA := kmem 821 (by decide +kernel) (by decide +kernel)
theorem ksel_yX6_first : Cond.selects RX6 yX6_first yX6_first ∈ kWA := kmem 31 (by decide +kernel) (by decide +kernel)
theorem kd_yX6_nextChild : Cond.code yX6_nextChild cX6_nextChild 6 (some .int) ∈ kWA := kmem 826 (by decide +kernel) (by decide +kernel)
theorem kinst_yX6_nextChild : Cond.instanceMethod yX6_nextChild ∈ kWA := kmem 825 (by decide +kernel) (by decide +kernel)
theorem ksel_yX6_nextChild : Cond.selects RX6 yX6_nextChild yX6_nextChild ∈ kWA := kmem 32 (by decide +kernel) (by decide +kernel)
theorem kd_yX6_isChild : Cond.code yX6_isChild cX6_isChild 3 (some .boolean) ∈ kWA := kmem 830 (by decide +kernel) (by decide +kernel)
theorem kinst_yX6_isChild : Cond.instanceMethod yX6_isChild ∈ kWA := kmem 829 (by decide +kernel) (by decide +kernel)
theorem ksel_yX6_isChild : Cond.selects RX6 yX6_isChild yX6_isChild ∈ kWA := kmem 33 (by decide +kernel) (by decide +kernel)
theorem kd_yX6_isAhead : Cond.code yX6_isAhead cX6_isAhead 4 (some .boolean) ∈ kWA := kmem 834 (by decide +kernel) (by decide +kernel)
theorem kinst_yX6_isAhead : Cond.instanceMethod yX6_isAhead ∈ kWA := kmem 833 (by decide +kernel) (by decide +kernel)
theorem ksel_yX6_isAhead : Cond.selects RX6 yX6_isAhead yX6_isAhead ∈ kWA := kmem 34 (by decide +kernel) (by decide +kernel)
theorem kd_yX6_personTold : Cond.code yX6_personTold cX6_personTold 5 (some .int) ∈ kWA := kmem 842 (by decide +kernel) (by decide +kernel)
theorem kinst_yX6_personTold : Cond.instanceMethod yX6_personTold ∈ kWA := kmem 841 (by decide +kernel) (by decide +kernel)
theorem ksel_yX6_personTold : Cond.selects RX6 yX6_personTold yX6_personTold ∈ kWA := kmem 35 (by decide +kernel) (by decide +kernel)
theorem kd_yX6_landTold : Cond.code yX6_landTold cX6_landTold 4 (some .int) ∈ kWA := kmem 850 (by decide +kernel) (by decide +kernel)
theorem kinst_yX6_landTold : Cond.instanceMethod yX6_landTold ∈ kWA := kmem 849 (by decide +kernel) (by decide +kernel)
theorem ksel_yX6_landTold : Cond.selects RX6 yX6_landTold yX6_landTold ∈ kWA := kmem 36 (by decide +kernel) (by decide +kernel)
theorem kd_yX6_regent : Cond.code yX6_regent cX6_regent 7 (some .int) ∈ kWA := kmem 854 (by decide +kernel) (by decide +kernel)
theorem kinst_yX6_regent : Cond.instanceMethod yX6_regent ∈ kWA := kmem 853 (by decide +kernel) (by decide +kernel)
theorem ksel_yX6_regent : Cond.selects RX6 yX6_regent yX6_regent ∈ kWA := kmem 37 (by decide +kernel) (by decide +kernel)
theorem kd_yX6_kept : Cond.code yX6_kept cX6_kept 2 (some .int) ∈ kWA := kmem 862 (by decide +kernel) (by decide +kernel)
theorem kinst_yX6_kept : Cond.instanceMethod yX6_kept ∈ kWA := kmem 861 (by decide +kernel) (by decide +kernel)
theorem ksel_yX6_kept : Cond.selects RX6 yX6_kept yX6_kept ∈ kWA := kmem 38 (by decide +kernel) (by decide +kernel)
theorem kd_yX6_counted : Cond.code yX6_counted cX6_counted 4 (some .int) ∈ kWA := kmem 874 (by decide +kernel) (by decide +kernel)
theorem kinst_yX6_counted : Cond.instanceMethod yX6_counted ∈ kWA := kmem 873 (by decide +kernel) (by decide +kernel)
theorem ksel_yX6_counted : Cond.selects RX6 yX6_counted yX6_counted ∈ kWA := kmem 39 (by decide +kernel) (by decide +kernel)
theorem kd_yX6_rulesNow : Cond.code yX6_rulesNow cX6_rulesNow 2 (some .boolean) ∈ kWA := kmem 878 (by decide +kernel) (by decide +kernel)
theorem kinst_yX6_rulesNow : Cond.instanceMethod yX6_rulesNow ∈ kWA := kmem 877 (by decide +kernel) (by decide +kernel)
theorem ksel_yX6_rulesNow : Cond.selects RX6 yX6_rulesNow yX6_rulesNow ∈ kWA := kmem 40 (by decide +kernel) (by decide +kernel)
theorem kd_yX6_yearsOn : Cond.code yX6_yearsOn cX6_yearsOn 4 (some .int) ∈ kWA := kmem 886 (by decide +kernel) (by decide +kernel)
theorem kinst_yX6_yearsOn : Cond.instanceMethod yX6_yearsOn ∈ kWA := kmem 885 (by decide +kernel) (by decide +kernel)
theorem ksel_yX6_yearsOn : Cond.selects RX6 yX6_yearsOn yX6_yearsOn ∈ kWA := kmem 41 (by decide +kernel) (by decide +kernel)
theorem kd_yX6_yearOn : Cond.code yX6_yearOn cX6_yearOn 3 (some .int) ∈ kWA := kmem 890 (by decide +kernel) (by decide +kernel)
theorem kinst_yX6_yearOn : Cond.instanceMethod yX6_yearOn ∈ kWA := kmem 889 (by decide +kernel) (by decide +kernel)
theorem ksel_yX6_yearOn : Cond.selects RX6 yX6_yearOn yX6_yearOn ∈ kWA := kmem 42 (by decide +kernel) (by decide +kernel)
theorem kd_yX6_kept_ : Cond.code yX6_kept_ cX6_kept_ 1 (some (.array (.array .int))) ∈ kWA := kmem 898 (by decide +kernel) (by decide +kernel)
theorem kinst_yX6_kept_ : Cond.instanceMethod yX6_kept_ ∈ kWA := kmem 897 (by decide +kernel) (by decide +kernel)
theorem ksel_yX6_kept_ : Cond.selects RX6 yX6_kept_ yX6_kept_ ∈ kWA := kmem 43 (by decide +kernel) (by decide +kernel)
theorem kd_yX6_bringBack : Cond.code yX6_bringBack cX6_bringBack 4 none ∈ kWA := kmem 909 (by decide +kernel) (by decide +kernel)
theorem kinst_yX6_bringBack : Cond.instanceMethod yX6_bringBack ∈ kWA := kmem 908 (by decide +kernel) (by decide +kernel)
theorem ksel_yX6_bringBack : Cond.selects RX6 yX6_bringBack yX6_bringBack ∈ kWA := kmem 44 (by decide +kernel) (by decide +kernel)
theorem kd_yX5_init : Cond.code yX5_init cX5_init 1 none ∈ kWA := kmem 66 (by decide +kernel) (by decide +kernel)
theorem kinst_yX5_init : Cond.instanceMethod yX5_init ∈ kWA := kmem 65 (by decide +kernel) (by decide +kernel)
theorem kd_objectInit : Cond.code objectInit ⟨#[0xb1]⟩ 1 none ∈ kWA := kmem 69 (by decide +kernel) (by decide +kernel)
theorem kinst_objectInit : Cond.instanceMethod objectInit ∈ kWA := kmem 68 (by decide +kernel) (by decide +kernel)
theorem kd_yX0_init : Cond.code yX0_init cX0_init 1 none ∈ kWA := kmem 74 (by decide +kernel) (by decide +kernel)
theorem kinst_yX0_init : Cond.instanceMethod yX0_init ∈ kWA := kmem 73 (by decide +kernel) (by decide +kernel)
theorem kd_yX4_init : Cond.code yX4_init cX4_init 2 none ∈ kWA := kmem 111 (by decide +kernel) (by decide +kernel)
theorem kinst_yX4_init : Cond.instanceMethod yX4_init ∈ kWA := kmem 110 (by decide +kernel) (by decide +kernel)
theorem kd_yX1_init : Cond.code yX1_init cX1_init 1 none ∈ kWA := kmem 117 (by decide +kernel) (by decide +kernel)
theorem kinst_yX1_init : Cond.instanceMethod yX1_init ∈ kWA := kmem 116 (by decide +kernel) (by decide +kernel)
theorem kd_yX3_init : Cond.code yX3_init cX3_init 1 none ∈ kWA := kmem 155 (by decide +kernel) (by decide +kernel)
theorem kinst_yX3_init : Cond.instanceMethod yX3_init ∈ kWA := kmem 154 (by decide +kernel) (by decide +kernel)
theorem kd_yJ7_fill_53178 : Cond.code yJ7_fill_53178 cJ7_fill_53178 4 none ∈ kWA := kmem 159 (by decide +kernel) (by decide +kernel)
theorem kstatic_yJ7_fill_53178 : Cond.static yJ7_fill_53178 ∈ kWA := kmem 158 (by decide +kernel) (by decide +kernel)
theorem kd_yX2_init : Cond.code yX2_init cX2_init 1 none ∈ kWA := kmem 172 (by decide +kernel) (by decide +kernel)
theorem kinst_yX2_init : Cond.instanceMethod yX2_init ∈ kWA := kmem 171 (by decide +kernel) (by decide +kernel)
theorem kd_yX5_mean : Cond.code yX5_mean cX5_mean 4 (some .double) ∈ kWA := kmem 217 (by decide +kernel) (by decide +kernel)
theorem kinst_yX5_mean : Cond.instanceMethod yX5_mean ∈ kWA := kmem 215 (by decide +kernel) (by decide +kernel)
theorem ksel_yX5_mean : Cond.selects RX5 yX5_mean yX5_mean ∈ kWA := kmem 216 (by decide +kernel) (by decide +kernel)
theorem kd_yX4_lives : Cond.code yX4_lives cX4_lives 2 (some .boolean) ∈ kWA := kmem 221 (by decide +kernel) (by decide +kernel)
theorem kinst_yX4_lives : Cond.instanceMethod yX4_lives ∈ kWA := kmem 219 (by decide +kernel) (by decide +kernel)
theorem ksel_yX4_lives : Cond.selects RX4 yX4_lives yX4_lives ∈ kWA := kmem 220 (by decide +kernel) (by decide +kernel)
theorem kd_yX0_knows : Cond.code yX0_knows cX0_knows 2 (some .boolean) ∈ kWA := kmem 225 (by decide +kernel) (by decide +kernel)
theorem kinst_yX0_knows : Cond.instanceMethod yX0_knows ∈ kWA := kmem 223 (by decide +kernel) (by decide +kernel)
theorem ksel_yX0_knows : Cond.selects RX0 yX0_knows yX0_knows ∈ kWA := kmem 224 (by decide +kernel) (by decide +kernel)
theorem kd_yX4_age : Cond.code yX4_age cX4_age 2 (some .int) ∈ kWA := kmem 229 (by decide +kernel) (by decide +kernel)
theorem kinst_yX4_age : Cond.instanceMethod yX4_age ∈ kWA := kmem 227 (by decide +kernel) (by decide +kernel)
theorem ksel_yX4_age : Cond.selects RX4 yX4_age yX4_age ∈ kWA := kmem 228 (by decide +kernel) (by decide +kernel)
theorem kd_yX5_digest : Cond.code yX5_digest cX5_digest 5 (some .long) ∈ kWA := kmem 233 (by decide +kernel) (by decide +kernel)
theorem kinst_yX5_digest : Cond.instanceMethod yX5_digest ∈ kWA := kmem 231 (by decide +kernel) (by decide +kernel)
theorem ksel_yX5_digest : Cond.selects RX5 yX5_digest yX5_digest ∈ kWA := kmem 232 (by decide +kernel) (by decide +kernel)
theorem kd_yX4_countFact : Cond.code yX4_countFact cX4_countFact 2 (some .int) ∈ kWA := kmem 238 (by decide +kernel) (by decide +kernel)
theorem kinst_yX4_countFact : Cond.instanceMethod yX4_countFact ∈ kWA := kmem 236 (by decide +kernel) (by decide +kernel)
theorem ksel_yX4_countFact : Cond.selects RX4 yX4_countFact yX4_countFact ∈ kWA := kmem 237 (by decide +kernel) (by decide +kernel)
theorem kd_yX3_couples : Cond.code yX3_couples cX3_couples 3 (some .int) ∈ kWA := kmem 247 (by decide +kernel) (by decide +kernel)
theorem kinst_yX3_couples : Cond.instanceMethod yX3_couples ∈ kWA := kmem 245 (by decide +kernel) (by decide +kernel)
theorem ksel_yX3_couples : Cond.selects RX3 yX3_couples yX3_couples ∈ kWA := kmem 246 (by decide +kernel) (by decide +kernel)
theorem kd_yX1_numberUnder : Cond.code yX1_numberUnder cX1_numberUnder 4 (some .int) ∈ kWA := kmem 251 (by decide +kernel) (by decide +kernel)
theorem kinst_yX1_numberUnder : Cond.instanceMethod yX1_numberUnder ∈ kWA := kmem 249 (by decide +kernel) (by decide +kernel)
theorem ksel_yX1_numberUnder : Cond.selects RX1 yX1_numberUnder yX1_numberUnder ∈ kWA := kmem 250 (by decide +kernel) (by decide +kernel)
theorem kd_yX5_digested : Cond.code yX5_digested cX5_digested 4 (some .long) ∈ kWA := kmem 259 (by decide +kernel) (by decide +kernel)
theorem kstatic_yX5_digested : Cond.static yX5_digested ∈ kWA := kmem 258 (by decide +kernel) (by decide +kernel)
theorem kd_yX4_personFact : Cond.code yX4_personFact cX4_personFact 3 (some .int) ∈ kWA := kmem 264 (by decide +kernel) (by decide +kernel)
theorem kinst_yX4_personFact : Cond.instanceMethod yX4_personFact ∈ kWA := kmem 262 (by decide +kernel) (by decide +kernel)
theorem ksel_yX4_personFact : Cond.selects RX4 yX4_personFact yX4_personFact ∈ kWA := kmem 263 (by decide +kernel) (by decide +kernel)
theorem kd_yX3_spouseOf : Cond.code yX3_spouseOf cX3_spouseOf 2 (some .int) ∈ kWA := kmem 268 (by decide +kernel) (by decide +kernel)
theorem kinst_yX3_spouseOf : Cond.instanceMethod yX3_spouseOf ∈ kWA := kmem 266 (by decide +kernel) (by decide +kernel)
theorem ksel_yX3_spouseOf : Cond.selects RX3 yX3_spouseOf yX3_spouseOf ∈ kWA := kmem 267 (by decide +kernel) (by decide +kernel)
theorem kd_yX0_childrenOf : Cond.code yX0_childrenOf cX0_childrenOf 4 (some .int) ∈ kWA := kmem 272 (by decide +kernel) (by decide +kernel)
theorem kinst_yX0_childrenOf : Cond.instanceMethod yX0_childrenOf ∈ kWA := kmem 270 (by decide +kernel) (by decide +kernel)
theorem ksel_yX0_childrenOf : Cond.selects RX0 yX0_childrenOf yX0_childrenOf ∈ kWA := kmem 271 (by decide +kernel) (by decide +kernel)
theorem kd_yX1_worthUnder : Cond.code yX1_worthUnder cX1_worthUnder 4 (some .int) ∈ kWA := kmem 276 (by decide +kernel) (by decide +kernel)
theorem kinst_yX1_worthUnder : Cond.instanceMethod yX1_worthUnder ∈ kWA := kmem 274 (by decide +kernel) (by decide +kernel)
theorem ksel_yX1_worthUnder : Cond.selects RX1 yX1_worthUnder yX1_worthUnder ∈ kWA := kmem 275 (by decide +kernel) (by decide +kernel)
theorem kd_yX4_landFact : Cond.code yX4_landFact cX4_landFact 4 (some .int) ∈ kWA := kmem 284 (by decide +kernel) (by decide +kernel)
theorem kinst_yX4_landFact : Cond.instanceMethod yX4_landFact ∈ kWA := kmem 282 (by decide +kernel) (by decide +kernel)
theorem ksel_yX4_landFact : Cond.selects RX4 yX4_landFact yX4_landFact ∈ kWA := kmem 283 (by decide +kernel) (by decide +kernel)
theorem kd_yX0_stepsBetween : Cond.code yX0_stepsBetween cX0_stepsBetween 3 (some .int) ∈ kWA := kmem 296 (by decide +kernel) (by decide +kernel)
theorem kinst_yX0_stepsBetween : Cond.instanceMethod yX0_stepsBetween ∈ kWA := kmem 294 (by decide +kernel) (by decide +kernel)
theorem ksel_yX0_stepsBetween : Cond.selects RX0 yX0_stepsBetween yX0_stepsBetween ∈ kWA := kmem 295 (by decide +kernel) (by decide +kernel)
theorem kd_yX0_isBefore : Cond.code yX0_isBefore cX0_isBefore 3 (some .boolean) ∈ kWA := kmem 301 (by decide +kernel) (by decide +kernel)
theorem kinst_yX0_isBefore : Cond.instanceMethod yX0_isBefore ∈ kWA := kmem 299 (by decide +kernel) (by decide +kernel)
theorem ksel_yX0_isBefore : Cond.selects RX0 yX0_isBefore yX0_isBefore ∈ kWA := kmem 300 (by decide +kernel) (by decide +kernel)
theorem kd_yX4_heirOf : Cond.code yX4_heirOf cX4_heirOf 5 (some .int) ∈ kWA := kmem 305 (by decide +kernel) (by decide +kernel)
theorem kinst_yX4_heirOf : Cond.instanceMethod yX4_heirOf ∈ kWA := kmem 303 (by decide +kernel) (by decide +kernel)
theorem ksel_yX4_heirOf : Cond.selects RX4 yX4_heirOf yX4_heirOf ∈ kWA := kmem 304 (by decide +kernel) (by decide +kernel)
theorem kd_yX2_clear : Cond.code yX2_clear cX2_clear 1 none ∈ kWA := kmem 313 (by decide +kernel) (by decide +kernel)
theorem kinst_yX2_clear : Cond.instanceMethod yX2_clear ∈ kWA := kmem 311 (by decide +kernel) (by decide +kernel)
theorem ksel_yX2_clear : Cond.selects RX2 yX2_clear yX2_clear ∈ kWA := kmem 312 (by decide +kernel) (by decide +kernel)
theorem kd_yX2_firstOf : Cond.code yX2_firstOf cX2_firstOf 2 (some .int) ∈ kWA := kmem 318 (by decide +kernel) (by decide +kernel)
theorem kinst_yX2_firstOf : Cond.instanceMethod yX2_firstOf ∈ kWA := kmem 316 (by decide +kernel) (by decide +kernel)
theorem ksel_yX2_firstOf : Cond.selects RX2 yX2_firstOf yX2_firstOf ∈ kWA := kmem 317 (by decide +kernel) (by decide +kernel)
theorem kd_yX2_tell : Cond.code yX2_tell cX2_tell 6 none ∈ kWA := kmem 322 (by decide +kernel) (by decide +kernel)
theorem kinst_yX2_tell : Cond.instanceMethod yX2_tell ∈ kWA := kmem 320 (by decide +kernel) (by decide +kernel)
theorem ksel_yX2_tell : Cond.selects RX2 yX2_tell yX2_tell ∈ kWA := kmem 321 (by decide +kernel) (by decide +kernel)
theorem kd_yX0_isAhead : Cond.code yX0_isAhead cX0_isAhead 4 (some .boolean) ∈ kWA := kmem 327 (by decide +kernel) (by decide +kernel)
theorem kinst_yX0_isAhead : Cond.instanceMethod yX0_isAhead ∈ kWA := kmem 325 (by decide +kernel) (by decide +kernel)
theorem ksel_yX0_isAhead : Cond.selects RX0 yX0_isAhead yX0_isAhead ∈ kWA := kmem 326 (by decide +kernel) (by decide +kernel)
theorem kstatic_yL_come : Cond.static yL_come ∈ kWA := kmem 330 (by decide +kernel) (by decide +kernel)
theorem kd_yX5_come : Cond.code yX5_come cX5_come 3 (some .int) ∈ kWA := kmem 337 (by decide +kernel) (by decide +kernel)
theorem kinst_yX5_come : Cond.instanceMethod yX5_come ∈ kWA := kmem 335 (by decide +kernel) (by decide +kernel)
theorem ksel_yX5_come : Cond.selects RX5 yX5_come yX5_come ∈ kWA := kmem 336 (by decide +kernel) (by decide +kernel)
theorem kd_yX0_isFull : Cond.code yX0_isFull cX0_isFull 1 (some .boolean) ∈ kWA := kmem 409 (by decide +kernel) (by decide +kernel)
theorem kinst_yX0_isFull : Cond.instanceMethod yX0_isFull ∈ kWA := kmem 407 (by decide +kernel) (by decide +kernel)
theorem ksel_yX0_isFull : Cond.selects RX0 yX0_isFull yX0_isFull ∈ kWA := kmem 408 (by decide +kernel) (by decide +kernel)
theorem kd_yX0_add : Cond.code yX0_add cX0_add 8 (some .int) ∈ kWA := kmem 429 (by decide +kernel) (by decide +kernel)
theorem kinst_yX0_add : Cond.instanceMethod yX0_add ∈ kWA := kmem 427 (by decide +kernel) (by decide +kernel)
theorem ksel_yX0_add : Cond.selects RX0 yX0_add yX0_add ∈ kWA := kmem 428 (by decide +kernel) (by decide +kernel)
theorem kd_yJ9_min_7cf53 : Cond.code yJ9_min_7cf53 cJ9_min_7cf53 2 (some .int) ∈ kWA := kmem 438 (by decide +kernel) (by decide +kernel)
theorem kstatic_yJ9_min_7cf53 : Cond.static yJ9_min_7cf53 ∈ kWA := kmem 437 (by decide +kernel) (by decide +kernel)
theorem kstatic_yL_bear : Cond.static yL_bear ∈ kWA := kmem 440 (by decide +kernel) (by decide +kernel)
theorem kd_yX5_bear : Cond.code yX5_bear cX5_bear 4 (some .int) ∈ kWA := kmem 446 (by decide +kernel) (by decide +kernel)
theorem kinst_yX5_bear : Cond.instanceMethod yX5_bear ∈ kWA := kmem 444 (by decide +kernel) (by decide +kernel)
theorem ksel_yX5_bear : Cond.selects RX5 yX5_bear yX5_bear ∈ kWA := kmem 445 (by decide +kernel) (by decide +kernel)
theorem kstatic_yL_found : Cond.static yL_found ∈ kWA := kmem 471 (by decide +kernel) (by decide +kernel)
theorem kd_yX5_found : Cond.code yX5_found cX5_found 4 (some .int) ∈ kWA := kmem 476 (by decide +kernel) (by decide +kernel)
theorem kinst_yX5_found : Cond.instanceMethod yX5_found ∈ kWA := kmem 474 (by decide +kernel) (by decide +kernel)
theorem ksel_yX5_found : Cond.selects RX5 yX5_found yX5_found ∈ kWA := kmem 475 (by decide +kernel) (by decide +kernel)
theorem kd_yX5_needLaw : Cond.code yX5_needLaw cX5_needLaw 1 none ∈ kWA := kmem 480 (by decide +kernel) (by decide +kernel)
theorem kstatic_yX5_needLaw : Cond.static yX5_needLaw ∈ kWA := kmem 479 (by decide +kernel) (by decide +kernel)
theorem kd_yX1_isFull : Cond.code yX1_isFull cX1_isFull 1 (some .boolean) ∈ kWA := kmem 485 (by decide +kernel) (by decide +kernel)
theorem kinst_yX1_isFull : Cond.instanceMethod yX1_isFull ∈ kWA := kmem 483 (by decide +kernel) (by decide +kernel)
theorem ksel_yX1_isFull : Cond.selects RX1 yX1_isFull yX1_isFull ∈ kWA := kmem 484 (by decide +kernel) (by decide +kernel)
theorem kd_yX1_add : Cond.code yX1_add cX1_add 5 (some .int) ∈ kWA := kmem 491 (by decide +kernel) (by decide +kernel)
theorem kinst_yX1_add : Cond.instanceMethod yX1_add ∈ kWA := kmem 489 (by decide +kernel) (by decide +kernel)
theorem ksel_yX1_add : Cond.selects RX1 yX1_add yX1_add ∈ kWA := kmem 490 (by decide +kernel) (by decide +kernel)
theorem kd_yX1_handTo : Cond.code yX1_handTo cX1_handTo 3 none ∈ kWA := kmem 496 (by decide +kernel) (by decide +kernel)
theorem kinst_yX1_handTo : Cond.instanceMethod yX1_handTo ∈ kWA := kmem 494 (by decide +kernel) (by decide +kernel)
theorem ksel_yX1_handTo : Cond.selects RX1 yX1_handTo yX1_handTo ∈ kWA := kmem 495 (by decide +kernel) (by decide +kernel)
theorem kstatic_arraycopyName : Cond.static arraycopyName ∈ kWA := kmem 498 (by decide +kernel) (by decide +kernel)
theorem knative_arraycopyName : Cond.native arraycopyName ∈ kWA := kmem 499 (by decide +kernel) (by decide +kernel)
theorem kstatic_yL_setLaw : Cond.static yL_setLaw ∈ kWA := kmem 502 (by decide +kernel) (by decide +kernel)
theorem kd_yX5_setLaw : Cond.code yX5_setLaw cX5_setLaw 4 (some .int) ∈ kWA := kmem 507 (by decide +kernel) (by decide +kernel)
theorem kinst_yX5_setLaw : Cond.instanceMethod yX5_setLaw ∈ kWA := kmem 505 (by decide +kernel) (by decide +kernel)
theorem ksel_yX5_setLaw : Cond.selects RX5 yX5_setLaw yX5_setLaw ∈ kWA := kmem 506 (by decide +kernel) (by decide +kernel)
theorem kd_yX1_knows : Cond.code yX1_knows cX1_knows 2 (some .boolean) ∈ kWA := kmem 515 (by decide +kernel) (by decide +kernel)
theorem kinst_yX1_knows : Cond.instanceMethod yX1_knows ∈ kWA := kmem 513 (by decide +kernel) (by decide +kernel)
theorem ksel_yX1_knows : Cond.selects RX1 yX1_knows yX1_knows ∈ kWA := kmem 514 (by decide +kernel) (by decide +kernel)
theorem kstatic_yL_marry : Cond.static yL_marry ∈ kWA := kmem 518 (by decide +kernel) (by decide +kernel)
theorem kd_yX5_marry : Cond.code yX5_marry cX5_marry 5 (some .int) ∈ kWA := kmem 523 (by decide +kernel) (by decide +kernel)
theorem kinst_yX5_marry : Cond.instanceMethod yX5_marry ∈ kWA := kmem 521 (by decide +kernel) (by decide +kernel)
theorem ksel_yX5_marry : Cond.selects RX5 yX5_marry yX5_marry ∈ kWA := kmem 522 (by decide +kernel) (by decide +kernel)
theorem kd_yX4_mayMarry : Cond.code yX4_mayMarry cX4_mayMarry 4 (some .boolean) ∈ kWA := kmem 527 (by decide +kernel) (by decide +kernel)
theorem kinst_yX4_mayMarry : Cond.instanceMethod yX4_mayMarry ∈ kWA := kmem 525 (by decide +kernel) (by decide +kernel)
theorem ksel_yX4_mayMarry : Cond.selects RX4 yX4_mayMarry yX4_mayMarry ∈ kWA := kmem 526 (by decide +kernel) (by decide +kernel)
theorem kd_yX1_rulerOf : Cond.code yX1_rulerOf cX1_rulerOf 2 (some .int) ∈ kWA := kmem 536 (by decide +kernel) (by decide +kernel)
theorem kinst_yX1_rulerOf : Cond.instanceMethod yX1_rulerOf ∈ kWA := kmem 534 (by decide +kernel) (by decide +kernel)
theorem ksel_yX1_rulerOf : Cond.selects RX1 yX1_rulerOf yX1_rulerOf ∈ kWA := kmem 535 (by decide +kernel) (by decide +kernel)
theorem kd_yX4_wed : Cond.code yX4_wed cX4_wed 5 none ∈ kWA := kmem 542 (by decide +kernel) (by decide +kernel)
theorem kinst_yX4_wed : Cond.instanceMethod yX4_wed ∈ kWA := kmem 540 (by decide +kernel) (by decide +kernel)
theorem ksel_yX4_wed : Cond.selects RX4 yX4_wed yX4_wed ∈ kWA := kmem 541 (by decide +kernel) (by decide +kernel)
theorem kd_yX3_bind : Cond.code yX3_bind cX3_bind 3 none ∈ kWA := kmem 546 (by decide +kernel) (by decide +kernel)
theorem kinst_yX3_bind : Cond.instanceMethod yX3_bind ∈ kWA := kmem 544 (by decide +kernel) (by decide +kernel)
theorem ksel_yX3_bind : Cond.selects RX3 yX3_bind yX3_bind ∈ kWA := kmem 545 (by decide +kernel) (by decide +kernel)
theorem kstatic_yL_annul : Cond.static yL_annul ∈ kWA := kmem 551 (by decide +kernel) (by decide +kernel)
theorem kd_yX5_annul : Cond.code yX5_annul cX5_annul 2 (some .int) ∈ kWA := kmem 556 (by decide +kernel) (by decide +kernel)
theorem kinst_yX5_annul : Cond.instanceMethod yX5_annul ∈ kWA := kmem 554 (by decide +kernel) (by decide +kernel)
theorem ksel_yX5_annul : Cond.selects RX5 yX5_annul yX5_annul ∈ kWA := kmem 555 (by decide +kernel) (by decide +kernel)
theorem kd_yX4_separate : Cond.code yX4_separate cX4_separate 6 (some .int) ∈ kWA := kmem 561 (by decide +kernel) (by decide +kernel)
theorem kinst_yX4_separate : Cond.instanceMethod yX4_separate ∈ kWA := kmem 559 (by decide +kernel) (by decide +kernel)
theorem ksel_yX4_separate : Cond.selects RX4 yX4_separate yX4_separate ∈ kWA := kmem 560 (by decide +kernel) (by decide +kernel)
theorem kd_yX3_part : Cond.code yX3_part cX3_part 3 none ∈ kWA := kmem 565 (by decide +kernel) (by decide +kernel)
theorem kinst_yX3_part : Cond.instanceMethod yX3_part ∈ kWA := kmem 563 (by decide +kernel) (by decide +kernel)
theorem ksel_yX3_part : Cond.selects RX3 yX3_part yX3_part ∈ kWA := kmem 564 (by decide +kernel) (by decide +kernel)
theorem kstatic_yL_die : Cond.static yL_die ∈ kWA := kmem 568 (by decide +kernel) (by decide +kernel)
theorem kd_yX5_die : Cond.code yX5_die cX5_die 2 (some .int) ∈ kWA := kmem 573 (by decide +kernel) (by decide +kernel)
theorem kinst_yX5_die : Cond.instanceMethod yX5_die ∈ kWA := kmem 571 (by decide +kernel) (by decide +kernel)
theorem ksel_yX5_die : Cond.selects RX5 yX5_die yX5_die ∈ kWA := kmem 572 (by decide +kernel) (by decide +kernel)
theorem kd_yX4_bury : Cond.code yX4_bury cX4_bury 4 (some .int) ∈ kWA := kmem 578 (by decide +kernel) (by decide +kernel)
theorem kinst_yX4_bury : Cond.instanceMethod yX4_bury ∈ kWA := kmem 576 (by decide +kernel) (by decide +kernel)
theorem ksel_yX4_bury : Cond.selects RX4 yX4_bury yX4_bury ∈ kWA := kmem 577 (by decide +kernel) (by decide +kernel)
theorem kstatic_yL_person : Cond.static yL_person ∈ kWA := kmem 580 (by decide +kernel) (by decide +kernel)
theorem kd_yX5_person : Cond.code yX5_person cX5_person 3 (some .int) ∈ kWA := kmem 585 (by decide +kernel) (by decide +kernel)
theorem kinst_yX5_person : Cond.instanceMethod yX5_person ∈ kWA := kmem 583 (by decide +kernel) (by decide +kernel)
theorem ksel_yX5_person : Cond.selects RX5 yX5_person yX5_person ∈ kWA := kmem 584 (by decide +kernel) (by decide +kernel)
theorem kd_yX5_needBelow : Cond.code yX5_needBelow cX5_needBelow 2 none ∈ kWA := kmem 588 (by decide +kernel) (by decide +kernel)
theorem kstatic_yX5_needBelow : Cond.static yX5_needBelow ∈ kWA := kmem 587 (by decide +kernel) (by decide +kernel)
theorem kstatic_yL_land : Cond.static yL_land ∈ kWA := kmem 591 (by decide +kernel) (by decide +kernel)
theorem kd_yX5_land : Cond.code yX5_land cX5_land 3 (some .int) ∈ kWA := kmem 596 (by decide +kernel) (by decide +kernel)
theorem kinst_yX5_land : Cond.instanceMethod yX5_land ∈ kWA := kmem 594 (by decide +kernel) (by decide +kernel)
theorem ksel_yX5_land : Cond.selects RX5 yX5_land yX5_land ∈ kWA := kmem 595 (by decide +kernel) (by decide +kernel)
theorem kstatic_yL_ruled : Cond.static yL_ruled ∈ kWA := kmem 598 (by decide +kernel) (by decide +kernel)
theorem kd_yX5_ruled : Cond.code yX5_ruled cX5_ruled 3 (some .int) ∈ kWA := kmem 603 (by decide +kernel) (by decide +kernel)
theorem kinst_yX5_ruled : Cond.instanceMethod yX5_ruled ∈ kWA := kmem 601 (by decide +kernel) (by decide +kernel)
theorem ksel_yX5_ruled : Cond.selects RX5 yX5_ruled yX5_ruled ∈ kWA := kmem 602 (by decide +kernel) (by decide +kernel)
theorem kstatic_yL_related : Cond.static yL_related ∈ kWA := kmem 605 (by decide +kernel) (by decide +kernel)
theorem kd_yX5_related : Cond.code yX5_related cX5_related 3 (some .int) ∈ kWA := kmem 610 (by decide +kernel) (by decide +kernel)
theorem kinst_yX5_related : Cond.instanceMethod yX5_related ∈ kWA := kmem 608 (by decide +kernel) (by decide +kernel)
theorem ksel_yX5_related : Cond.selects RX5 yX5_related yX5_related ∈ kWA := kmem 609 (by decide +kernel) (by decide +kernel)
theorem kstatic_yL_count : Cond.static yL_count ∈ kWA := kmem 612 (by decide +kernel) (by decide +kernel)
theorem kd_yX5_count : Cond.code yX5_count cX5_count 2 (some .int) ∈ kWA := kmem 617 (by decide +kernel) (by decide +kernel)
theorem kinst_yX5_count : Cond.instanceMethod yX5_count ∈ kWA := kmem 615 (by decide +kernel) (by decide +kernel)
theorem ksel_yX5_count : Cond.selects RX5 yX5_count yX5_count ∈ kWA := kmem 616 (by decide +kernel) (by decide +kernel)
theorem kstatic_yL_pass : Cond.static yL_pass ∈ kWA := kmem 619 (by decide +kernel) (by decide +kernel)
theorem kd_yX5_pass : Cond.code yX5_pass cX5_pass 2 (some .int) ∈ kWA := kmem 624 (by decide +kernel) (by decide +kernel)
theorem kinst_yX5_pass : Cond.instanceMethod yX5_pass ∈ kWA := kmem 622 (by decide +kernel) (by decide +kernel)
theorem ksel_yX5_pass : Cond.selects RX5 yX5_pass yX5_pass ∈ kWA := kmem 623 (by decide +kernel) (by decide +kernel)
theorem kd_yX5_needYears : Cond.code yX5_needYears cX5_needYears 1 none ∈ kWA := kmem 627 (by decide +kernel) (by decide +kernel)
theorem kstatic_yX5_needYears : Cond.static yX5_needYears ∈ kWA := kmem 626 (by decide +kernel) (by decide +kernel)
theorem kd_yX4_letPass : Cond.code yX4_letPass cX4_letPass 5 (some .int) ∈ kWA := kmem 632 (by decide +kernel) (by decide +kernel)
theorem kinst_yX4_letPass : Cond.instanceMethod yX4_letPass ∈ kWA := kmem 630 (by decide +kernel) (by decide +kernel)
theorem ksel_yX4_letPass : Cond.selects RX4 yX4_letPass yX4_letPass ∈ kWA := kmem 631 (by decide +kernel) (by decide +kernel)
theorem kstatic_yL_rules : Cond.static yL_rules ∈ kWA := kmem 635 (by decide +kernel) (by decide +kernel)
theorem kd_yX5_rules : Cond.code yX5_rules cX5_rules 3 (some .int) ∈ kWA := kmem 640 (by decide +kernel) (by decide +kernel)
theorem kinst_yX5_rules : Cond.instanceMethod yX5_rules ∈ kWA := kmem 638 (by decide +kernel) (by decide +kernel)
theorem ksel_yX5_rules : Cond.selects RX5 yX5_rules yX5_rules ∈ kWA := kmem 639 (by decide +kernel) (by decide +kernel)
theorem kd_yX4_startFrom : Cond.code yX4_startFrom cX4_startFrom 2 none ∈ kWA := kmem 644 (by decide +kernel) (by decide +kernel)
theorem kinst_yX4_startFrom : Cond.instanceMethod yX4_startFrom ∈ kWA := kmem 642 (by decide +kernel) (by decide +kernel)
theorem ksel_yX4_startFrom : Cond.selects RX4 yX4_startFrom yX4_startFrom ∈ kWA := kmem 643 (by decide +kernel) (by decide +kernel)
theorem kd_yX1_takeRulers : Cond.code yX1_takeRulers cX1_takeRulers 2 none ∈ kWA := kmem 649 (by decide +kernel) (by decide +kernel)
theorem kinst_yX1_takeRulers : Cond.instanceMethod yX1_takeRulers ∈ kWA := kmem 647 (by decide +kernel) (by decide +kernel)
theorem ksel_yX1_takeRulers : Cond.selects RX1 yX1_takeRulers yX1_takeRulers ∈ kWA := kmem 648 (by decide +kernel) (by decide +kernel)
theorem kstatic_yL_foresee : Cond.static yL_foresee ∈ kWA := kmem 652 (by decide +kernel) (by decide +kernel)
theorem kd_yX5_foresee : Cond.code yX5_foresee cX5_foresee 3 (some .int) ∈ kWA := kmem 657 (by decide +kernel) (by decide +kernel)
theorem kinst_yX5_foresee : Cond.instanceMethod yX5_foresee ∈ kWA := kmem 655 (by decide +kernel) (by decide +kernel)
theorem ksel_yX5_foresee : Cond.selects RX5 yX5_foresee yX5_foresee ∈ kWA := kmem 656 (by decide +kernel) (by decide +kernel)
theorem kstatic_yL_best : Cond.static yL_best ∈ kWA := kmem 659 (by decide +kernel) (by decide +kernel)
theorem kd_yX5_best : Cond.code yX5_best cX5_best 6 (some .int) ∈ kWA := kmem 664 (by decide +kernel) (by decide +kernel)
theorem kinst_yX5_best : Cond.instanceMethod yX5_best ∈ kWA := kmem 662 (by decide +kernel) (by decide +kernel)
theorem ksel_yX5_best : Cond.selects RX5 yX5_best yX5_best ∈ kWA := kmem 663 (by decide +kernel) (by decide +kernel)
theorem kd_yX6_init : Cond.code yX6_init cX6_init 1 none ∈ kWA := kmem 669 (by decide +kernel) (by decide +kernel)
theorem kinst_yX6_init : Cond.instanceMethod yX6_init ∈ kWA := kmem 668 (by decide +kernel) (by decide +kernel)
theorem kd_yX6_thrown : Cond.code yX6_thrown cX6_thrown 1 (some .int) ∈ kWA := kmem 705 (by decide +kernel) (by decide +kernel)
theorem kinst_yX6_thrown : Cond.instanceMethod yX6_thrown ∈ kWA := kmem 703 (by decide +kernel) (by decide +kernel)
theorem ksel_yX6_thrown : Cond.selects RX6 yX6_thrown yX6_thrown ∈ kWA := kmem 704 (by decide +kernel) (by decide +kernel)
theorem kd_yX6_come : Cond.code yX6_come cX6_come 3 (some .int) ∈ kWA := kmem 709 (by decide +kernel) (by decide +kernel)
theorem kinst_yX6_come : Cond.instanceMethod yX6_come ∈ kWA := kmem 707 (by decide +kernel) (by decide +kernel)
theorem ksel_yX6_come : Cond.selects RX6 yX6_come yX6_come ∈ kWA := kmem 708 (by decide +kernel) (by decide +kernel)
theorem kd_yX6_isIn : Cond.code yX6_isIn cX6_isIn 3 (some .boolean) ∈ kWA := kmem 712 (by decide +kernel) (by decide +kernel)
theorem kstatic_yX6_isIn : Cond.static yX6_isIn ∈ kWA := kmem 711 (by decide +kernel) (by decide +kernel)
theorem kd_yX6_bear : Cond.code yX6_bear cX6_bear 3 (some .int) ∈ kWA := kmem 725 (by decide +kernel) (by decide +kernel)
theorem kinst_yX6_bear : Cond.instanceMethod yX6_bear ∈ kWA := kmem 723 (by decide +kernel) (by decide +kernel)
theorem ksel_yX6_bear : Cond.selects RX6 yX6_bear yX6_bear ∈ kWA := kmem 724 (by decide +kernel) (by decide +kernel)
theorem kd_yX6_found : Cond.code yX6_found cX6_found 5 (some .int) ∈ kWA := kmem 741 (by decide +kernel) (by decide +kernel)
theorem kinst_yX6_found : Cond.instanceMethod yX6_found ∈ kWA := kmem 739 (by decide +kernel) (by decide +kernel)
theorem ksel_yX6_found : Cond.selects RX6 yX6_found yX6_found ∈ kWA := kmem 740 (by decide +kernel) (by decide +kernel)
theorem kd_yX6_setLaw : Cond.code yX6_setLaw cX6_setLaw 4 (some .int) ∈ kWA := kmem 749 (by decide +kernel) (by decide +kernel)
theorem kinst_yX6_setLaw : Cond.instanceMethod yX6_setLaw ∈ kWA := kmem 747 (by decide +kernel) (by decide +kernel)
theorem ksel_yX6_setLaw : Cond.selects RX6 yX6_setLaw yX6_setLaw ∈ kWA := kmem 748 (by decide +kernel) (by decide +kernel)
theorem kd_yX6_marry : Cond.code yX6_marry cX6_marry 5 (some .int) ∈ kWA := kmem 761 (by decide +kernel) (by decide +kernel)
theorem kinst_yX6_marry : Cond.instanceMethod yX6_marry ∈ kWA := kmem 759 (by decide +kernel) (by decide +kernel)
theorem ksel_yX6_marry : Cond.selects RX6 yX6_marry yX6_marry ∈ kWA := kmem 760 (by decide +kernel) (by decide +kernel)
theorem kd_yX6_annul : Cond.code yX6_annul cX6_annul 5 (some .int) ∈ kWA := kmem 794 (by decide +kernel) (by decide +kernel)
theorem kinst_yX6_annul : Cond.instanceMethod yX6_annul ∈ kWA := kmem 792 (by decide +kernel) (by decide +kernel)
theorem ksel_yX6_annul : Cond.selects RX6 yX6_annul yX6_annul ∈ kWA := kmem 793 (by decide +kernel) (by decide +kernel)
theorem kd_yX6_die : Cond.code yX6_die cX6_die 2 (some .int) ∈ kWA := kmem 802 (by decide +kernel) (by decide +kernel)
theorem kinst_yX6_die : Cond.instanceMethod yX6_die ∈ kWA := kmem 800 (by decide +kernel) (by decide +kernel)
theorem ksel_yX6_die : Cond.selects RX6 yX6_die yX6_die ∈ kWA := kmem 801 (by decide +kernel) (by decide +kernel)
theorem kd_yX6_person_ : Cond.code yX6_person_ cX6_person_ 3 (some .int) ∈ kWA := kmem 838 (by decide +kernel) (by decide +kernel)
theorem kinst_yX6_person_ : Cond.instanceMethod yX6_person_ ∈ kWA := kmem 836 (by decide +kernel) (by decide +kernel)
theorem ksel_yX6_person_ : Cond.selects RX6 yX6_person_ yX6_person_ ∈ kWA := kmem 837 (by decide +kernel) (by decide +kernel)
theorem kd_yX6_land : Cond.code yX6_land cX6_land 3 (some .int) ∈ kWA := kmem 846 (by decide +kernel) (by decide +kernel)
theorem kinst_yX6_land : Cond.instanceMethod yX6_land ∈ kWA := kmem 844 (by decide +kernel) (by decide +kernel)
theorem ksel_yX6_land : Cond.selects RX6 yX6_land yX6_land ∈ kWA := kmem 845 (by decide +kernel) (by decide +kernel)
theorem kd_yX6_ruled : Cond.code yX6_ruled cX6_ruled 3 (some .int) ∈ kWA := kmem 858 (by decide +kernel) (by decide +kernel)
theorem kinst_yX6_ruled : Cond.instanceMethod yX6_ruled ∈ kWA := kmem 856 (by decide +kernel) (by decide +kernel)
theorem ksel_yX6_ruled : Cond.selects RX6 yX6_ruled yX6_ruled ∈ kWA := kmem 857 (by decide +kernel) (by decide +kernel)
theorem kd_yX6_related : Cond.code yX6_related cX6_related 3 (some .int) ∈ kWA := kmem 866 (by decide +kernel) (by decide +kernel)
theorem kinst_yX6_related : Cond.instanceMethod yX6_related ∈ kWA := kmem 864 (by decide +kernel) (by decide +kernel)
theorem ksel_yX6_related : Cond.selects RX6 yX6_related yX6_related ∈ kWA := kmem 865 (by decide +kernel) (by decide +kernel)
theorem kd_yX6_count : Cond.code yX6_count cX6_count 2 (some .int) ∈ kWA := kmem 870 (by decide +kernel) (by decide +kernel)
theorem kinst_yX6_count : Cond.instanceMethod yX6_count ∈ kWA := kmem 868 (by decide +kernel) (by decide +kernel)
theorem ksel_yX6_count : Cond.selects RX6 yX6_count yX6_count ∈ kWA := kmem 869 (by decide +kernel) (by decide +kernel)
theorem kd_yX6_pass : Cond.code yX6_pass cX6_pass 2 (some .int) ∈ kWA := kmem 882 (by decide +kernel) (by decide +kernel)
theorem kinst_yX6_pass : Cond.instanceMethod yX6_pass ∈ kWA := kmem 880 (by decide +kernel) (by decide +kernel)
theorem ksel_yX6_pass : Cond.selects RX6 yX6_pass yX6_pass ∈ kWA := kmem 881 (by decide +kernel) (by decide +kernel)
theorem kd_yX6_rules : Cond.code yX6_rules cX6_rules 4 (some .int) ∈ kWA := kmem 894 (by decide +kernel) (by decide +kernel)
theorem kinst_yX6_rules : Cond.instanceMethod yX6_rules ∈ kWA := kmem 892 (by decide +kernel) (by decide +kernel)
theorem ksel_yX6_rules : Cond.selects RX6 yX6_rules yX6_rules ∈ kWA := kmem 893 (by decide +kernel) (by decide +kernel)
theorem kd_yX6_foresee : Cond.code yX6_foresee cX6_foresee 5 (some .int) ∈ kWA := kmem 913 (by decide +kernel) (by decide +kernel)
theorem kinst_yX6_foresee : Cond.instanceMethod yX6_foresee ∈ kWA := kmem 911 (by decide +kernel) (by decide +kernel)
theorem ksel_yX6_foresee : Cond.selects RX6 yX6_foresee yX6_foresee ∈ kWA := kmem 912 (by decide +kernel) (by decide +kernel)
theorem kd_yX6_best : Cond.code yX6_best cX6_best 4 (some .int) ∈ kWA := kmem 917 (by decide +kernel) (by decide +kernel)
theorem kinst_yX6_best : Cond.instanceMethod yX6_best ∈ kWA := kmem 915 (by decide +kernel) (by decide +kernel)
theorem ksel_yX6_best : Cond.selects RX6 yX6_best yX6_best ∈ kWA := kmem 916 (by decide +kernel) (by decide +kernel)
theorem kd_yX6_mean : Cond.code yX6_mean cX6_mean 3 (some .double) ∈ kWA := kmem 921 (by decide +kernel) (by decide +kernel)
theorem kinst_yX6_mean : Cond.instanceMethod yX6_mean ∈ kWA := kmem 919 (by decide +kernel) (by decide +kernel)
theorem ksel_yX6_mean : Cond.selects RX6 yX6_mean yX6_mean ∈ kWA := kmem 920 (by decide +kernel) (by decide +kernel)
theorem kd_yX6_digest : Cond.code yX6_digest cX6_digest 5 (some .long) ∈ kWA := kmem 925 (by decide +kernel) (by decide +kernel)
theorem kinst_yX6_digest : Cond.instanceMethod yX6_digest ∈ kWA := kmem 923 (by decide +kernel) (by decide +kernel)
theorem ksel_yX6_digest : Cond.selects RX6 yX6_digest yX6_digest ∈ kWA := kmem 924 (by decide +kernel) (by decide +kernel)
theorem kX0 : ∀ w ∈ wsX00, w ∈ kWA := by
  have h : wsX00 = [92, 94, 96, 98, 100, 102].filterMap (fun i => lw_tbl[i]?) := by decide +kernel
  have g : wsX00.all goodWord = true := by decide +kernel
  intro w hw
  have hw2 := hw
  rw [h] at hw2
  obtain ⟨i, -, hi⟩ := List.mem_filterMap.mp hw2
  exact kmem i hi (List.all_eq_true.mp g w hw)
theorem kX1 : ∀ w ∈ wsX10, w ∈ kWA := by
  have h : wsX10 = [136, 138, 140, 142, 144, 146, 148].filterMap (fun i => lw_tbl[i]?) := by decide +kernel
  have g : wsX10.all goodWord = true := by decide +kernel
  intro w hw
  have hw2 := hw
  rw [h] at hw2
  obtain ⟨i, -, hi⟩ := List.mem_filterMap.mp hw2
  exact kmem i hi (List.all_eq_true.mp g w hw)
theorem kX2 : ∀ w ∈ wsX20, w ∈ kWA := by
  have h : wsX20 = [176, 178].filterMap (fun i => lw_tbl[i]?) := by decide +kernel
  have g : wsX20.all goodWord = true := by decide +kernel
  intro w hw
  have hw2 := hw
  rw [h] at hw2
  obtain ⟨i, -, hi⟩ := List.mem_filterMap.mp hw2
  exact kmem i hi (List.all_eq_true.mp g w hw)
theorem kX3 : ∀ w ∈ wsX30, w ∈ kWA := by
  have h : wsX30 = [163, 165].filterMap (fun i => lw_tbl[i]?) := by decide +kernel
  have g : wsX30.all goodWord = true := by decide +kernel
  intro w hw
  have hw2 := hw
  rw [h] at hw2
  obtain ⟨i, -, hi⟩ := List.mem_filterMap.mp hw2
  exact kmem i hi (List.all_eq_true.mp g w hw)
theorem kX4 : ∀ w ∈ wsX40, w ∈ kWA := by
  have h : wsX40 = [191, 193, 195, 197, 199, 201].filterMap (fun i => lw_tbl[i]?) := by decide +kernel
  have g : wsX40.all goodWord = true := by decide +kernel
  intro w hw
  have hw2 := hw
  rw [h] at hw2
  obtain ⟨i, -, hi⟩ := List.mem_filterMap.mp hw2
  exact kmem i hi (List.all_eq_true.mp g w hw)
theorem kX5 : ∀ w ∈ wsX50, w ∈ kWA := by
  have h : wsX50 = [207, 209, 211].filterMap (fun i => lw_tbl[i]?) := by decide +kernel
  have g : wsX50.all goodWord = true := by decide +kernel
  intro w hw
  have hw2 := hw
  rw [h] at hw2
  obtain ⟨i, -, hi⟩ := List.mem_filterMap.mp hw2
  exact kmem i hi (List.all_eq_true.mp g w hw)
theorem kX6 : ∀ w ∈ wsX60, w ∈ kWA := by
  have h : wsX60 = [681, 683, 685, 687, 689, 691, 693, 695, 697, 699].filterMap (fun i => lw_tbl[i]?) := by decide +kernel
  have g : wsX60.all goodWord = true := by decide +kernel
  intro w hw
  have hw2 := hw
  rw [h] at hw2
  obtain ⟨i, -, hi⟩ := List.mem_filterMap.mp hw2
  exact kmem i hi (List.all_eq_true.mp g w hw)
end
section
/-! THE WORLD: every cell of the class's object (places 0 to 6 and from 15 on) and of the reference's (7 to 14), by places; ad tells a place's address, the moving part is a function place -> index -> int. -/
abbrev kS : Type := Nat → Nat → Int32
/-- the place f of the moving part, all else as it was -/
def kst (k : kS) (p : Nat) (f : Nat → Int32) : kS := fun q => if q = p then f else k q
theorem kst_eq (k : kS) (p : Nat) (f : Nat → Int32) : kst k p f p = f := if_pos rfl
theorem kst_ne (k : kS) {p q : Nat} (f : Nat → Int32) (h : q ≠ p) : kst k p f q = k q := if_neg h
/-- the rows of 'past' of the world B -/
def kpb (B : Nat) : Nat := if B < 30 then 45 else 57
def kEw (ad : Nat → Nat) (cI cO : ClassId) (k : kS) (B j : Nat) : va_E := match j with
  | 0 => .inr (4, [.ref (ad 1), .ref (ad (B + 1)), .ref (ad (B + 8)), .ref (ad (B + 11)), .ref (ad (B + 14)), .int (k B 0)])
  | 1 => .inr (1, [.int (k (B + 1) 0), .ref (ad (B + 2)), .ref (ad (B + 3)), .ref (ad (B + 4)), .ref (ad (B + 5)), .ref (ad (B + 6)), .ref (ad (B + 7))])
  | 2 => .inl (cI, 12, .inl (k (B + 2)))
  | 3 => .inl (cI, 12, .inl (k (B + 3)))
  | 4 => .inl (cI, 12, .inl (k (B + 4)))
  | 5 => .inl (cI, 12, .inl (k (B + 5)))
  | 6 => .inl (cI, 12, .inl (k (B + 6)))
  | 7 => .inl (cO, 12, .inr (.inr (.inr (.inr (fun i => if i < 12 then some (ad (kpb B + i)) else none)))))
  | 8 => .inr (3, [.ref (ad (B + 9)), .ref (ad (B + 10))])
  | 9 => .inl (cI, 40, .inl (k (B + 9)))
  | 10 => .inl (cI, 40, .inl (k (B + 10)))
  | 11 => .inr (2, [.ref (ad (B + 12)), .ref (ad (B + 13))])
  | 12 => .inl (cI, 40, .inl (k (B + 12)))
  | 13 => .inl (cI, 40, .inl (k (B + 13)))
  | _ => .inl (cI, 40, .inl (k (B + 14)))
/-- what the place p holds -/
def kE (ad : Nat → Nat) (cI cZ cO : ClassId) (k m : kS) (p : Nat) : va_E :=
  if p < 15 then match p with
    | 0 => .inr (5, [.ref (ad 1), .ref (ad 15), .ref (ad 30)])
    | 1 => .inr (0, [.int (k 1 0), .ref (ad 2), .ref (ad 3), .ref (ad 4), .ref (ad 5), .ref (ad 6)])
    | 2 => .inl (cZ, 40, .inl (k 2))
    | 3 => .inl (cI, 40, .inl (k 3))
    | 4 => .inl (cI, 40, .inl (k 4))
    | 5 => .inl (cI, 40, .inl (k 5))
    | 6 => .inl (cO, 40, .inr (.inr (.inr (.inr (fun i => if i < 40 then some (ad (69 + i)) else none)))))
    | 7 => .inr (6, [.int (m 7 0), .int (m 7 1), .int (m 7 2), .ref (ad 8), .ref (ad 9), .ref (ad 10), .ref (ad 11), .ref (ad 12), .ref (ad 13), .ref (ad 14)])
    | 8 => .inl (cI, 360, .inl (m 8))
    | 9 => .inl (cI, 48, .inl (m 9))
    | 10 => .inl (cI, 180, .inl (m 10))
    | 11 => .inl (cI, 1, .inl (m 11))
    | 12 => .inl (cI, 40, .inl (m 12))
    | 13 => .inl (cI, 40, .inl (m 13))
    | _ => .inl (cI, 12, .inl (m 14))
  else if p < 30 then kEw ad cI cO k 15 (p - 15)
  else if p < 45 then kEw ad cI cO k 30 (p - 30)
  else if p < 69 then .inl (cI, 15, .inl (k p))
  else .inl (cI, 40, .inl (k p))
/-- the two worlds -/
def kB (B : Nat) : Prop := B = 15 ∨ B = 30
section KE
variable {ad : Nat → Nat} {cI cZ cO : ClassId} {k m : kS}
theorem kE_0 : kE ad cI cZ cO k m 0 = .inr (5, [.ref (ad 1), .ref (ad 15), .ref (ad 30)]) := rfl
theorem kE_1 : kE ad cI cZ cO k m 1 = .inr (0, [.int (k 1 0), .ref (ad 2), .ref (ad 3), .ref (ad 4), .ref (ad 5), .ref (ad 6)]) := rfl
theorem kE_2 : kE ad cI cZ cO k m 2 = .inl (cZ, 40, .inl (k 2)) := rfl
theorem kE_3 : kE ad cI cZ cO k m 3 = .inl (cI, 40, .inl (k 3)) := rfl
theorem kE_4 : kE ad cI cZ cO k m 4 = .inl (cI, 40, .inl (k 4)) := rfl
theorem kE_5 : kE ad cI cZ cO k m 5 = .inl (cI, 40, .inl (k 5)) := rfl
theorem kE_6 : kE ad cI cZ cO k m 6 = .inl (cO, 40, .inr (.inr (.inr (.inr (fun i => if i < 40 then some (ad (69 + i)) else none))))) := rfl
theorem kE_7 : kE ad cI cZ cO k m 7 = .inr (6, [.int (m 7 0), .int (m 7 1), .int (m 7 2), .ref (ad 8), .ref (ad 9), .ref (ad 10), .ref (ad 11), .ref (ad 12), .ref (ad 13), .ref (ad 14)]) := rfl
theorem kE_8 : kE ad cI cZ cO k m 8 = .inl (cI, 360, .inl (m 8)) := rfl
theorem kE_9 : kE ad cI cZ cO k m 9 = .inl (cI, 48, .inl (m 9)) := rfl
theorem kE_10 : kE ad cI cZ cO k m 10 = .inl (cI, 180, .inl (m 10)) := rfl
theorem kE_11 : kE ad cI cZ cO k m 11 = .inl (cI, 1, .inl (m 11)) := rfl
theorem kE_12 : kE ad cI cZ cO k m 12 = .inl (cI, 40, .inl (m 12)) := rfl
theorem kE_13 : kE ad cI cZ cO k m 13 = .inl (cI, 40, .inl (m 13)) := rfl
theorem kE_14 : kE ad cI cZ cO k m 14 = .inl (cI, 12, .inl (m 14)) := rfl
theorem kE_w0 {B : Nat} (h : kB B) : kE ad cI cZ cO k m B = .inr (4, [.ref (ad 1), .ref (ad (B + 1)), .ref (ad (B + 8)), .ref (ad (B + 11)), .ref (ad (B + 14)), .int (k B 0)]) := by rcases h with rfl | rfl <;> rfl
theorem kE_w1 {B : Nat} (h : kB B) : kE ad cI cZ cO k m (B + 1) = .inr (1, [.int (k (B + 1) 0), .ref (ad (B + 2)), .ref (ad (B + 3)), .ref (ad (B + 4)), .ref (ad (B + 5)), .ref (ad (B + 6)), .ref (ad (B + 7))]) := by rcases h with rfl | rfl <;> rfl
theorem kE_w2 {B : Nat} (h : kB B) : kE ad cI cZ cO k m (B + 2) = .inl (cI, 12, .inl (k (B + 2))) := by rcases h with rfl | rfl <;> rfl
theorem kE_w3 {B : Nat} (h : kB B) : kE ad cI cZ cO k m (B + 3) = .inl (cI, 12, .inl (k (B + 3))) := by rcases h with rfl | rfl <;> rfl
theorem kE_w4 {B : Nat} (h : kB B) : kE ad cI cZ cO k m (B + 4) = .inl (cI, 12, .inl (k (B + 4))) := by rcases h with rfl | rfl <;> rfl
theorem kE_w5 {B : Nat} (h : kB B) : kE ad cI cZ cO k m (B + 5) = .inl (cI, 12, .inl (k (B + 5))) := by rcases h with rfl | rfl <;> rfl
theorem kE_w6 {B : Nat} (h : kB B) : kE ad cI cZ cO k m (B + 6) = .inl (cI, 12, .inl (k (B + 6))) := by rcases h with rfl | rfl <;> rfl
theorem kE_w7 {B : Nat} (h : kB B) : kE ad cI cZ cO k m (B + 7) = .inl (cO, 12, .inr (.inr (.inr (.inr (fun i => if i < 12 then some (ad (kpb B + i)) else none))))) := by rcases h with rfl | rfl <;> rfl
theorem kE_w8 {B : Nat} (h : kB B) : kE ad cI cZ cO k m (B + 8) = .inr (3, [.ref (ad (B + 9)), .ref (ad (B + 10))]) := by rcases h with rfl | rfl <;> rfl
theorem kE_w9 {B : Nat} (h : kB B) : kE ad cI cZ cO k m (B + 9) = .inl (cI, 40, .inl (k (B + 9))) := by rcases h with rfl | rfl <;> rfl
theorem kE_w10 {B : Nat} (h : kB B) : kE ad cI cZ cO k m (B + 10) = .inl (cI, 40, .inl (k (B + 10))) := by rcases h with rfl | rfl <;> rfl
theorem kE_w11 {B : Nat} (h : kB B) : kE ad cI cZ cO k m (B + 11) = .inr (2, [.ref (ad (B + 12)), .ref (ad (B + 13))]) := by rcases h with rfl | rfl <;> rfl
theorem kE_w12 {B : Nat} (h : kB B) : kE ad cI cZ cO k m (B + 12) = .inl (cI, 40, .inl (k (B + 12))) := by rcases h with rfl | rfl <;> rfl
theorem kE_w13 {B : Nat} (h : kB B) : kE ad cI cZ cO k m (B + 13) = .inl (cI, 40, .inl (k (B + 13))) := by rcases h with rfl | rfl <;> rfl
theorem kE_w14 {B : Nat} (h : kB B) : kE ad cI cZ cO k m (B + 14) = .inl (cI, 40, .inl (k (B + 14))) := by rcases h with rfl | rfl <;> rfl
theorem kE_past {p : Nat} (h1 : 45 ≤ p) (h2 : p < 69) : kE ad cI cZ cO k m p = .inl (cI, 15, .inl (k p)) := by
  unfold kE
  rw [if_neg (by omega), if_neg (by omega), if_neg (by omega), if_pos h2]
theorem kE_steps {p : Nat} (h1 : 69 ≤ p) : kE ad cI cZ cO k m p = .inl (cI, 40, .inl (k p)) := by
  unfold kE
  rw [if_neg (by omega), if_neg (by omega), if_neg (by omega), if_neg (by omega)]
theorem kEw_dep {B j : Nat} {k k' : kS} (hj : j < 15) (h : k (B + j) = k' (B + j)) : kEw ad cI cO k B j = kEw ad cI cO k' B j := by
  match j, hj, h with
  | 0, _, h => have h' : k B = k' B := h; simp [kEw, h']
  | 1, _, h => simp [kEw, h]
  | 2, _, h => simp [kEw, h]
  | 3, _, h => simp [kEw, h]
  | 4, _, h => simp [kEw, h]
  | 5, _, h => simp [kEw, h]
  | 6, _, h => simp [kEw, h]
  | 7, _, h => rfl
  | 8, _, h => rfl
  | 9, _, h => simp [kEw, h]
  | 10, _, h => simp [kEw, h]
  | 11, _, h => rfl
  | 12, _, h => simp [kEw, h]
  | 13, _, h => simp [kEw, h]
  | 14, _, h => simp [kEw, h]
theorem kE_dep {k k' m m' : kS} {q : Nat} (h : k q = k' q) (h2 : m q = m' q) : kE ad cI cZ cO k m q = kE ad cI cZ cO k' m' q := by
  by_cases h15 : q < 15
  · match q, h15, h, h2 with
    | 0, _, h, h2 => rfl
    | 1, _, h, h2 => rw [kE_1, kE_1, h]
    | 2, _, h, h2 => rw [kE_2, kE_2, h]
    | 3, _, h, h2 => rw [kE_3, kE_3, h]
    | 4, _, h, h2 => rw [kE_4, kE_4, h]
    | 5, _, h, h2 => rw [kE_5, kE_5, h]
    | 6, _, h, h2 => rfl
    | 7, _, h, h2 => rw [kE_7, kE_7, h2]
    | 8, _, h, h2 => rw [kE_8, kE_8, h2]
    | 9, _, h, h2 => rw [kE_9, kE_9, h2]
    | 10, _, h, h2 => rw [kE_10, kE_10, h2]
    | 11, _, h, h2 => rw [kE_11, kE_11, h2]
    | 12, _, h, h2 => rw [kE_12, kE_12, h2]
    | 13, _, h, h2 => rw [kE_13, kE_13, h2]
    | 14, _, h, h2 => rw [kE_14, kE_14, h2]
  · unfold kE
    rw [if_neg h15, if_neg h15]
    by_cases h30 : q < 30
    · rw [if_pos h30, if_pos h30]
      exact kEw_dep (by omega) (by rw [show 15 + (q - 15) = q by omega]; exact h)
    · rw [if_neg h30, if_neg h30]
      by_cases h45 : q < 45
      · rw [if_pos h45, if_pos h45]
        exact kEw_dep (by omega) (by rw [show 30 + (q - 30) = q by omega]; exact h)
      · rw [if_neg h45, if_neg h45, h]
end KE
/-- the cells of all places -/
def kC (ad : Nat → Nat) (e : Nat → va_E) : va_W := (List.range 109).map (fun p => (ad p, e p))
theorem kC_len (ad : Nat → Nat) (e : Nat → va_E) : (kC ad e).length = 109 := by simp [kC]
theorem kC_get {ad : Nat → Nat} {e : Nat → va_E} {X : va_W} {p : Nat} (hp : p < 109) : (kC ad e ++ X)[p]? = some (ad p, e p) := by
  rw [List.getElem?_append_left (by rw [kC_len]; exact hp)]
  simp [kC, hp]
theorem kC_inv {ad : Nat → Nat} {e : Nat → va_E} {p : Nat} {q : Nat × va_E} (h : (kC ad e)[p]? = some q) : p < 109 ∧ q = (ad p, e p) := by
  have hp : p < 109 := by
    have := (List.getElem?_eq_some_iff.mp h).1
    rwa [kC_len] at this
  have h2 := kC_get (ad := ad) (e := e) (X := []) hp
  rw [List.append_nil] at h2
  rw [h2] at h
  exact ⟨hp, (Option.some.inj h).symm⟩
theorem kC_set {ad : Nat → Nat} {e e' : Nat → va_E} {X : va_W} {p : Nat} (hp : p < 109) (ho : ∀ q, q ≠ p → e' q = e q) : (kC ad e ++ X).set p (ad p, e' p) = kC ad e' ++ X := by
  rw [List.set_append_left _ _ (by rw [kC_len]; exact hp)]
  congr 1
  apply List.ext_getElem?
  intro i
  by_cases hi : i = p
  · subst hi
    rw [List.getElem?_set_self (by rw [kC_len]; exact hp)]
    have h2 := kC_get (ad := ad) (e := e') (X := []) hp
    rw [List.append_nil] at h2
    exact h2.symm
  · rw [List.getElem?_set_ne (fun h => hi h.symm)]
    by_cases hl : i < 109
    · have h1 := kC_get (ad := ad) (e := e) (X := []) hl
      have h2 := kC_get (ad := ad) (e := e') (X := []) hl
      rw [List.append_nil] at h1 h2
      rw [h1, h2, ho i hi]
    · rw [List.getElem?_eq_none (by rw [kC_len]; omega), List.getElem?_eq_none (by rw [kC_len]; omega)]
/-- what a method may change -/
def fA (ad : Nat → Nat) (sz : Nat) : Nat → Prop := fun q => (∃ p, p < 109 ∧ q = ad p) ∨ sz ≤ q
theorem fA_va (ad : Nat → Nat) (e : Nat → va_E) (sz q : Nat) : va_A (kC ad e) sz q ↔ fA ad sz q := by
  constructor
  · rintro (⟨p, x, h⟩ | h)
    · obtain ⟨h1, h2⟩ := kC_inv h
      exact Or.inl ⟨p, h1, (Prod.ext_iff.mp h2).1⟩
    · exact Or.inr h
  · rintro (⟨p, h1, rfl⟩ | h)
    · have h2 := kC_get (ad := ad) (e := e) (X := []) h1
      rw [List.append_nil] at h2
      exact Or.inl ⟨p, e p, h2⟩
    · exact Or.inr h
theorem fA_eq (ad : Nat → Nat) (e : Nat → va_E) (sz : Nat) : va_A (kC ad e) sz = fA ad sz := funext fun q => propext (fA_va ad e sz q)
theorem kC_is (ad : Nat → Nat) (e : Nat → va_E) (X : va_W) : (List.range 109).map (fun i => (kC ad e ++ X)[i]?) = (kC ad e).map some := by
  apply List.ext_getElem?
  intro i
  by_cases h : i < 109
  · have h2 := kC_get (ad := ad) (e := e) (X := []) h
    rw [List.append_nil] at h2
    rw [List.getElem?_map, List.getElem?_range h, List.getElem?_map, h2]
    simp [kC_get h]
  · rw [List.getElem?_eq_none (by simp; omega), List.getElem?_eq_none (by rw [List.length_map, kC_len]; omega)]
theorem kX_is (ad : Nat → Nat) (e : Nat → va_E) (X : va_W) : ((List.range X.length).map (109 + ·)).map (fun i => (kC ad e ++ X)[i]?) = X.map some := by
  apply List.ext_getElem?
  intro i
  by_cases h : i < X.length
  · rw [List.getElem?_map, List.getElem?_map, List.getElem?_range h, List.getElem?_map]
    simp only [Option.map_some]
    rw [List.getElem?_append_right (by rw [kC_len]; omega), kC_len, show 109 + i - 109 = i by omega, List.getElem?_eq_getElem h]
    rfl
  · rw [List.getElem?_eq_none (by simp; omega), List.getElem?_eq_none (by simp; omega)]
theorem va_nd_of : ∀ (l : List Nat), l.Nodup → va_nd l = true
  | [], _ => rfl
  | a :: l, h => by
    have h1 := List.nodup_cons.mp h
    simp only [va_nd, Bool.and_eq_true, decide_eq_true_eq]
    exact ⟨h1.1, va_nd_of l h1.2⟩
theorem kX_nd (n : Nat) : va_nd ((List.range n).map (109 + ·)) = true := va_nd_of _ (List.pairwise_map.mpr (List.Pairwise.imp (fun h e => h (Nat.add_left_cancel e)) (List.nodup_range (n := n))))
end
section
/-! ROWS OVER THE WORLD: a row an instruction that touches the heap -/
abbrev kT (cI cZ cO : ClassId) : List (ClassId × FieldType) := [(cI, .int), (cZ, .boolean), (cO, .array .int)]
/-- what stays while a method runs -/
def kV (p : Program) (s : State) (m : MethodId) (args : Array Value) (meth : Method) (c : Code) (cc : ByteArray) (own : String) (nL : Nat) (ret : Option FieldType) (D : va_G) (cI cZ cO : ClassId) : Prop :=
  p.tables.exec = Jvm.exec ∧ c.code = cc ∧ c.maxLocals = nL ∧ s.vm.findClass own = some m.cls ∧ (∀ w ∈ kWA, w.before args s = true) ∧ meth.sig.returnType = ret ∧ meth.locks = false ∧ va_K D vwCl (kT cI cZ cO) s
/-- the heap: the places hold e, beside them lies X; nothing else that is old has changed -/
def kH (s : State) (H : Heap) (locs : List Loc) (D : va_G) (ad : Nat → Nat) (e : Nat → va_E) (X : va_W) : Prop :=
  va_P D vwCl (kC ad e ++ X) H ∧ va_D (fA ad s.heap.size) (kC ad e ++ X) ∧ va_S (fA ad s.heap.size) s.heap H locs
theorem fA_new {ad : Nat → Nat} {sz : Nat} : ∀ q, sz ≤ q → fA ad sz q := fun _ h => Or.inr h
/-- a start -/
def kP (as : List Value) (D : va_G) (cI cZ cO : ClassId) (ad : Nat → Nat) (e : Nat → va_E) (sz : Nat) : Array Value → State → Prop :=
  va_Pc as (fun U => U.heap.size = sz ∧ va_P D vwCl (kC ad e) U.heap ∧ va_K D vwCl (kT cI cZ cO) U ∧ va_D (fun _ => True) (kC ad e))
def kEnd (D : va_G) (cI cZ cO : ClassId) (ad : Nat → Nat) (e : Nat → va_E) (sz : Nat) : Unit → State → Prop := fun _ t =>
  va_P D vwCl (kC ad e) t.heap ∧ va_K D vwCl (kT cI cZ cO) t ∧ va_D (fA ad sz) (kC ad e)
abbrev kQi (r : Int32) (D : va_G) (cI cZ cO : ClassId) (ad : Nat → Nat) (e : Nat → va_E) (sz : Nat) := va_Qi (fun (r' : Int32) (_ : Unit) => r' = r) (kEnd D cI cZ cO ad e sz) (fA ad sz)
abbrev kQl (r : Int64) (D : va_G) (cI cZ cO : ClassId) (ad : Nat → Nat) (e : Nat → va_E) (sz : Nat) := va_Ql (fun (r' : Int64) (_ : Unit) => r' = r) (kEnd D cI cZ cO ad e sz) (fA ad sz)
abbrev kQd (r : UInt64) (D : va_G) (cI cZ cO : ClassId) (ad : Nat → Nat) (e : Nat → va_E) (sz : Nat) := va_Qd (fun (r' : UInt64) (_ : Unit) => r' = r) (kEnd D cI cZ cO ad e sz) (fA ad sz)
abbrev kQv (D : va_G) (cI cZ cO : ClassId) (ad : Nat → Nat) (e : Nat → va_E) (sz : Nat) := va_Qv (fun (_ : Unit) => True) (kEnd D cI cZ cO ad e sz) (fA ad sz)
theorem kP_blind {as : List Value} {D : va_G} {cI cZ cO : ClassId} {ad : Nat → Nat} {e : Nat → va_E} {sz : Nat} : FrameBlind (kP as D cI cZ cO ad e sz) := fun a U g mk q => by
  obtain ⟨q0, q1, qP, qK, qD⟩ := q
  exact ⟨q0, q1, qP, va_K.moved (u := U) (U := U.calling g mk a) (Vm.Alike.refl U.vm) qK, qD⟩
section KR
variable {p : Program} {l : Launch} {e : Env} {R : Room} {s : State} {m : MethodId} {args : Array Value} {below : List Frame} {meth : Method} {c : Code} {H : Heap} {locs : List Loc} {cells slots : Nat} {Q : State → Prop}
variable {cc : ByteArray} {own : String} {nL : Nat} {ret : Option FieldType} {D : va_G} {cI cZ cO : ClassId} {ad : Nat → Nat} {E E' : Nat → va_E} {X : va_W} {pc : Nat} {ls : Array Slot} {rest : List Value}
theorem kC_left {k : Nat} {q : Nat × va_E} (h : (kC ad E)[k]? = some q) : (kC ad E ++ X)[k]? = some q := by
  rw [List.getElem?_append_left (List.getElem?_eq_some_iff.mp h).1]
  exact h
theorem kH_pre (h : kH s H locs D ad E X) (V : kV p s m args meth c cc own nL ret D cI cZ cO) {as : List Value} : ∀ U : State, U.heap = H → s.WarmedH U.vm → kP as D cI cZ cO ad E H.size as.toArray U := by
  intro U hU hW
  refine ⟨rfl, by rw [hU], ?_, va_K.moved hW.alike V.2.2.2.2.2.2.2, ?_⟩
  · rw [hU]
    exact h.1.by id (fun k q hk => kC_left hk)
  · exact (h.2.1.by id (fun k q hk => kC_left hk) (fun i j _ _ e => e)).weaken (fun _ _ _ _ => trivial)
theorem fA_mono {a b q : Nat} (h : a ≤ b) (hq : fA ad b q) : fA ad a q := hq.elim Or.inl (fun h2 => Or.inr (Nat.le_trans h h2))
theorem kH_join (h : kH s H locs D ad E X) {H1 : Heap} {locs1 : List Loc} (hP1 : va_P D vwCl (kC ad E') H1) (hD1 : va_D (fA ad H.size) (kC ad E')) (hk : ∀ q : Nat, q < H.size → ¬ fA ad H.size q → H1[q]? = H[q]?) (hS : va_S (fA ad s.heap.size) s.heap H1 locs1) : kH s H1 locs1 D ad E' X := by
  obtain ⟨hP, hD⟩ := va_join (ws := kC ad E ++ X) (wc := kC ad E) (wr := X) (w1 := kC ad E') h.1 h.2.1 (List.range 109) ((List.range X.length).map (109 + ·)) (kC_is ad E X) (kX_is ad E X) (kX_nd _) (fun i hi hi2 => by
      obtain ⟨j, -, rfl⟩ := List.mem_map.mp hi
      have := List.mem_range.mp hi2
      omega)
    (fun q h1 h2 => hk q h1 (fun h3 => h2 ((fA_va ad E H.size q).mpr h3))) (fun q hq => fA_mono h.2.2.1 ((fA_va ad E H.size q).mp hq)) hP1 (by rw [fA_eq]; exact hD1)
  have hP2 := va_P.swap (a := []) (b := X) (c := kC ad E') hP
  have hD2 := va_D.swap (a := []) (b := X) (c := kC ad E') hD
  exact ⟨hP2, hD2, hS⟩
/-- getfield of a place's object -/
theorem kr_get (V : kV p s m args meth c cc own nL ret D cI cZ cO) (h : kH s H locs D ad E X) {q : Nat} (hq : q < 109) {ci : Nat} {fs : List Value} (he : E q = .inr (ci, fs)) {C : String} {T : u_T} {N : Nat} (hc : vwCl[ci]? = some (C, T, N)) (hin : ∀ w ∈ u_ws C T N, w ∈ kWA) (j : Nat) (hj : j < N) {index : Nat} (hl : Cond.fieldLink own index (T j).1 (T j).2.1 (T j).2.2.1 ∈ kWA) {v : Value} (hv : fs[j]? = some v) (hdg : decode cc pc = .ok (.getfield index, 3))
    (kk : W p l e R s m args below meth c H locs cells slots Q (F0 m (pc + 3) ls (v :: rest))) : W p l e R s m args below meth c H locs cells slots Q (F0 m pc ls (.ref (ad q) :: rest)) := by
  obtain ⟨hx, hb, hml, hown, hts, hr, hlk, hK⟩ := V
  exact va_get (D := D) (ci := ci) (fs := fs) (v := v) (C := C) (T := T) (N := N) hx hb hts hin hown hK h.1 q (by rw [kC_get hq, he]) hc j hj (hts _ hl) (fun _ h9 => h9) hv hdg kk
/-- putfield of a place's object, a field that isn't final -/
theorem kr_put (V : kV p s m args meth c cc own nL ret D cI cZ cO) (h : kH s H locs D ad E X) {q : Nat} (hq : q < 109) {ci : Nat} {fs : List Value} (he : E q = .inr (ci, fs)) {C : String} {T : u_T} {N : Nat} (hc : vwCl[ci]? = some (C, T, N)) (hin : ∀ w ∈ u_ws C T N, w ∈ kWA) (ty0 : Nat → FieldType) (hty : ∀ k, k < N → parseFieldDescriptor (T k).2.2.1 = some (ty0 k)) (hnm : ∀ a, a < N → ∀ b, b < N → a ≠ b → (T a).2.1 ≠ (T b).2.1) (j : Nat) (hj : j < N) {index : Nat} (hl : Cond.fieldLink own index (T j).1 (T j).2.1 (T j).2.2.1 ∈ kWA) (hfin : (T j).2.2.2 = false) (hd : parseFieldDescriptor (T j).2.2.1 = some .int) (hlen : j < fs.length) {x : Int32} (he' : E' q = .inr (ci, fs.set j (.int x))) (ho : ∀ a, a ≠ q → E' a = E a) (hdg : decode cc pc = .ok (.putfield index, 3))
    (kk : ∀ (H1 : Heap) (locs1 : List Loc), kH s H1 locs1 D ad E' X → W p l e R s m args below meth c H1 locs1 cells slots Q (F0 m (pc + 3) ls rest)) : W p l e R s m args below meth c H locs cells slots Q (F0 m pc ls (.int x :: .ref (ad q) :: rest)) := by
  obtain ⟨hx, hb, hml, hown, hts, hr, hlk, hK⟩ := V
  refine va_put (D := D) (ci := ci) (fs := fs) (v := .int x) (ty := .int) (C := C) (T := T) (N := N) hx hb hts hin ty0 hty hnm hown hK h.1 h.2.1 h.2.2 q (by rw [kC_get hq, he]) hc j hj (hts _ hl) (fun _ h9 => h9) hfin hd rfl rfl hlen hdg (fun H1 locs1 hP hD hS => ?_)
  rw [← he', kC_set hq ho] at hP hD
  exact kk H1 locs1 ⟨hP, hD, hS⟩
/-- iaload of a place's array -/
theorem kr_iald (V : kV p s m args meth c cc own nL ret D cI cZ cO) (h : kH s H locs D ad E X) {q : Nat} (hq : q < 109) {n : Nat} {f : Nat → Int32} (he : E q = .inl (cI, n, .inl f)) {i : Int32} (hi : ¬ (i < 0 ∨ n ≤ i.toNatClampNeg)) (hdg : decode cc pc = .ok (.iaload, 1))
    (kk : W p l e R s m args below meth c H locs cells slots Q (F0 m (pc + 1) ls (.int (f i.toNatClampNeg) :: rest))) : W p l e R s m args below meth c H locs cells slots Q (F0 m pc ls (.int i :: .ref (ad q) :: rest)) := by
  obtain ⟨hx, hb, hml, hown, hts, hr, hlk, hK⟩ := V
  exact va_iald (D := D) (cA := cI) (n := n) (f := f) hx hb hK h.1 q 0 (by rw [kC_get hq, he]) rfl hi hdg kk
theorem kr_zald (V : kV p s m args meth c cc own nL ret D cI cZ cO) (h : kH s H locs D ad E X) {q : Nat} (hq : q < 109) {n : Nat} {f : Nat → Int32} (he : E q = .inl (cZ, n, .inl f)) {i : Int32} (hi : ¬ (i < 0 ∨ n ≤ i.toNatClampNeg)) (hdg : decode cc pc = .ok (.baload, 1))
    (kk : W p l e R s m args below meth c H locs cells slots Q (F0 m (pc + 1) ls (.int (f i.toNatClampNeg) :: rest))) : W p l e R s m args below meth c H locs cells slots Q (F0 m pc ls (.int i :: .ref (ad q) :: rest)) := by
  obtain ⟨hx, hb, hml, hown, hts, hr, hlk, hK⟩ := V
  exact va_zald (D := D) (cA := cZ) (n := n) (f := f) hx hb hK h.1 q 1 (by rw [kC_get hq, he]) rfl hi hdg kk
/-- aaload of a place that holds rows: another place's address -/
theorem kr_aald (V : kV p s m args meth c cc own nL ret D cI cZ cO) (h : kH s H locs D ad E X) {q : Nat} (hq : q < 109) {n b : Nat} (he : E q = .inl (cO, n, .inr (.inr (.inr (.inr (fun i => if i < n then some (ad (b + i)) else none)))))) {i : Int32} (hi : ¬ (i < 0 ∨ n ≤ i.toNatClampNeg)) (hdg : decode cc pc = .ok (.aaload, 1))
    (kk : W p l e R s m args below meth c H locs cells slots Q (F0 m (pc + 1) ls (.ref (ad (b + i.toNatClampNeg)) :: rest))) : W p l e R s m args below meth c H locs cells slots Q (F0 m pc ls (.int i :: .ref (ad q) :: rest)) := by
  obtain ⟨hx, hb, hml, hown, hts, hr, hlk, hK⟩ := V
  have hlt : i.toNatClampNeg < n := Nat.not_le.mp fun q => hi (Or.inr q)
  have hP := h.1 q _ (kC_get (X := X) hq)
  rw [he] at hP
  exact W.aald (v := .ref (ad (b + i.toNatClampNeg))) (ty := .array .int) hx hb hP ((hK.2 2 _ rfl).1 n (fun j => va_rf (if j < n then some (ad (b + j)) else none))) rfl (fun q => by cases q) (by show ¬ (i < 0 ∨ (arrV _ _ _).slots.size ≤ _); rw [arrV_size]; exact hi) (by show (arrV _ _ _).slots[_]? = _; rw [arrV_read _ _ hlt]; simp [hlt, va_rf]) rfl rfl hdg kk
/-- iastore into a place's array -/
theorem kr_iast (V : kV p s m args meth c cc own nL ret D cI cZ cO) (h : kH s H locs D ad E X) {q : Nat} (hq : q < 109) {n : Nat} {f : Nat → Int32} (he : E q = .inl (cI, n, .inl f)) {i x : Int32} (hi : ¬ (i < 0 ∨ n ≤ i.toNatClampNeg)) (he' : E' q = .inl (cI, n, .inl (upd f i.toNatClampNeg x))) (ho : ∀ a, a ≠ q → E' a = E a) (hdg : decode cc pc = .ok (.iastore, 1))
    (kk : ∀ (H1 : Heap) (locs1 : List Loc), kH s H1 locs1 D ad E' X → W p l e R s m args below meth c H1 locs1 cells slots Q (F0 m (pc + 1) ls rest)) : W p l e R s m args below meth c H locs cells slots Q (F0 m pc ls (.int x :: .int i :: .ref (ad q) :: rest)) := by
  obtain ⟨hx, hb, hml, hown, hts, hr, hlk, hK⟩ := V
  refine va_iast (D := D) (cA := cI) (n := n) (f := f) hx hb hK h.1 h.2.1 h.2.2 q 0 (by rw [kC_get hq, he]) rfl hi hdg (fun H1 locs1 hP hD hS => ?_)
  rw [← he', kC_set hq ho] at hP hD
  exact kk H1 locs1 ⟨hP, hD, hS⟩
theorem kr_zast (V : kV p s m args meth c cc own nL ret D cI cZ cO) (h : kH s H locs D ad E X) {q : Nat} (hq : q < 109) {n : Nat} {f : Nat → Int32} (he : E q = .inl (cZ, n, .inl f)) {i x : Int32} (hi : ¬ (i < 0 ∨ n ≤ i.toNatClampNeg)) (he' : E' q = .inl (cZ, n, .inl (upd f i.toNatClampNeg (vp_nar .boolean x)))) (ho : ∀ a, a ≠ q → E' a = E a) (hdg : decode cc pc = .ok (.bastore, 1))
    (kk : ∀ (H1 : Heap) (locs1 : List Loc), kH s H1 locs1 D ad E' X → W p l e R s m args below meth c H1 locs1 cells slots Q (F0 m (pc + 1) ls rest)) : W p l e R s m args below meth c H locs cells slots Q (F0 m pc ls (.int x :: .int i :: .ref (ad q) :: rest)) := by
  obtain ⟨hx, hb, hml, hown, hts, hr, hlk, hK⟩ := V
  refine va_zast (D := D) (cA := cZ) (n := n) (f := f) hx hb hK h.1 h.2.1 h.2.2 q 1 (by rw [kC_get hq, he]) rfl hi hdg (fun H1 locs1 hP hD hS => ?_)
  rw [← he', kC_set hq ho] at hP hD
  exact kk H1 locs1 ⟨hP, hD, hS⟩
/-- System.arraycopy between two places' int arrays -/
theorem kr_copy (V : kV p s m args meth c cc own nL ret D cI cZ cO) (h : kH s H locs D ad E X) (hsz : ls.size = nL) {index : Nat} (w1 : Cond.methodLink own index arraycopyName ∈ kWA) (w2 : Cond.native arraycopyName ∈ kWA) (w3 : Cond.static arraycopyName ∈ kWA) (w4 : Cond.initialized "java/lang/System" ∈ kWA) {q0 q : Nat} (hq0 : q0 < 109) (hq : q < 109) {n0 n1 : Nat} {f g : Nat → Int32} (he0 : E q0 = .inl (cI, n0, .inl f)) (he : E q = .inl (cI, n1, .inl g)) {sp dp n : Int32} (h1 : ¬ sp < 0) (h2 : ¬ dp < 0) (h3 : ¬ n < 0) (h4 : sp.toNatClampNeg + n.toNatClampNeg ≤ n0) (h5 : dp.toNatClampNeg + n.toNatClampNeg ≤ n1)
    (hfr : 1 ≤ R.frames) (hlo : (rest.map fun v => v.category).sum + (nativeFrameWords "java/lang/System" "arraycopy" 5 + 11) ≤ R.locals) (he' : E' q = .inl (cI, n1, .inl (va_cpy f g sp.toNatClampNeg dp.toNatClampNeg n.toNatClampNeg))) (ho : ∀ a, a ≠ q → E' a = E a) (hdg : decode cc pc = .ok (.invokestatic index, 3))
    (kk : ∀ (H1 : Heap) (locs1 : List Loc), kH s H1 locs1 D ad E' X → W p l e R s m args below meth c H1 locs1 cells slots Q (F0 m (pc + 3) ls rest)) : W p l e R s m args below meth c H locs cells slots Q (F0 m pc ls (.int n :: .int dp :: .ref (ad q) :: .int sp :: .ref (ad q0) :: rest)) := by
  obtain ⟨hx, hb, hml, hown, hts, hr, hlk, hK⟩ := V
  refine va_copyi (D := D) (c0 := cI) (c1 := cI) (n0 := n0) (n1 := n1) (f := f) (g := g) (ty := .int) hx hb (hml.trans hsz.symm) hown (hts _ w1) (hts _ w2) (hts _ w3) (hts _ w4) hK h.1 h.2.1 h.2.2 q0 q 0 0 (by rw [kC_get hq0, he0]) (by rw [kC_get hq, he]) rfl rfl rfl h1 h2 h3 h4 h5 (fun i hi => rfl) hfr hlo hdg (fun H1 locs1 hP hD hS => ?_)
  rw [← he', kC_set hq ho] at hP hD
  exact kk H1 locs1 ⟨hP, hD, hS⟩
/-- Math.min -/
theorem kr_min (V : kV p s m args meth c cc own nL ret D cI cZ cO) (hsz : ls.size = nL) {index : Nat} (w1 : Cond.methodLink own index Lib.Math.min.name ∈ kWA) (w2 : Cond.static Lib.Math.min.name ∈ kWA) (w3 : Cond.initialized "java/lang/Math" ∈ kWA) (w4 : Cond.code Lib.Math.min.name Lib.Math.min.code 2 (some .int) ∈ kWA) (hfr : 1 ≤ R.frames) (hlo : (rest.map fun v => v.category).sum + 13 ≤ R.locals) (hc : cells ≤ R.cells) (hs : slots ≤ R.slots) {x y : Int32} (hdg : decode cc pc = .ok (.invokestatic index, 3))
    (kk : W p l e R s m args below meth c H locs cells slots Q (F0 m (pc + 3) ls (.int (if y < x then y else x) :: rest))) : W p l e R s m args below meth c H locs cells slots Q (F0 m pc ls (.int y :: .int x :: rest)) := by
  obtain ⟨hx, hb, hml, hown, hts, hr, hlk, hK⟩ := V
  exact va_mmin hx hb (hml.trans hsz.symm) hown (hts _ w1) (hts _ w2) (hts _ w3) (hts _ w4) hfr hlo hc hs hdg kk
/-! ends -/
theorem kEnd_of (V : kV p s m args meth c cc own nL ret D cI cZ cO) (h : kH s H locs D ad E X) {t : State} (ht : t.heap = H) (hW : s.WarmedH t.vm) : kEnd D cI cZ cO ad E s.heap.size () t := by
  refine ⟨?_, va_K.moved hW.alike V.2.2.2.2.2.2.2, ?_⟩
  · rw [ht]
    exact h.1.by id (fun k q hk => kC_left hk)
  · exact h.2.1.by id (fun k q hk => kC_left hk) (fun i j _ _ e => e)
theorem kr_iret (V : kV p s m args meth c cc own nL (some .int) D cI cZ cO) (h : kH s H locs D ad E X) {r : Int32} (hdg : decode cc pc = .ok (.ireturn, 1)) : W p l e R s m args below meth c H locs cells slots (MQ below (kQi r D cI cZ cO ad E s.heap.size) args s cells slots (fA ad s.heap.size)) (F0 m pc ls [.int r]) :=
  W.iret (v := r) V.1 V.2.1 V.2.2.2.2.2.1 (fun t ht hW => ⟨⟨r, (), rfl, rfl, kEnd_of V h ht hW⟩, h.2.2.F ht⟩) h.2.2.2.2 hdg V.2.2.2.2.2.2.1
theorem kr_zret (V : kV p s m args meth c cc own nL (some .boolean) D cI cZ cO) (h : kH s H locs D ad E X) {r : Int32} (hr : r = 0 ∨ r = 1) (hdg : decode cc pc = .ok (.ireturn, 1)) : W p l e R s m args below meth c H locs cells slots (MQ below (kQi r D cI cZ cO ad E s.heap.size) args s cells slots (fA ad s.heap.size)) (F0 m pc ls [.int r]) :=
  W.zret (v := r) V.1 V.2.1 V.2.2.2.2.2.1 (by rcases hr with rfl | rfl <;> rfl) (fun t ht hW => ⟨⟨r, (), rfl, rfl, kEnd_of V h ht hW⟩, h.2.2.F ht⟩) h.2.2.2.2 hdg V.2.2.2.2.2.2.1
theorem kr_lret (V : kV p s m args meth c cc own nL (some .long) D cI cZ cO) (h : kH s H locs D ad E X) {r : Int64} (hdg : decode cc pc = .ok (.lreturn, 1)) : W p l e R s m args below meth c H locs cells slots (MQ below (kQl r D cI cZ cO ad E s.heap.size) args s cells slots (fA ad s.heap.size)) (F0 m pc ls [.long r]) :=
  W.lret (v := r) V.1 V.2.1 V.2.2.2.2.2.1 (fun t ht hW => ⟨⟨r, (), rfl, rfl, kEnd_of V h ht hW⟩, h.2.2.F ht⟩) h.2.2.2.2 hdg V.2.2.2.2.2.2.1
theorem kr_dret (V : kV p s m args meth c cc own nL (some .double) D cI cZ cO) (h : kH s H locs D ad E X) {r : UInt64} (hdg : decode cc pc = .ok (.dreturn, 1)) : W p l e R s m args below meth c H locs cells slots (MQ below (kQd r D cI cZ cO ad E s.heap.size) args s cells slots (fA ad s.heap.size)) (F0 m pc ls [.double r]) :=
  W.dret (v := r) V.1 V.2.1 V.2.2.2.2.2.1 (fun t ht hW => ⟨⟨r, (), rfl, rfl, kEnd_of V h ht hW⟩, h.2.2.F ht⟩) h.2.2.2.2 hdg V.2.2.2.2.2.2.1
theorem kr_vret (V : kV p s m args meth c cc own nL none D cI cZ cO) (h : kH s H locs D ad E X) (hdg : decode cc pc = .ok (.return_, 1)) : W p l e R s m args below meth c H locs cells slots (MQ below (kQv D cI cZ cO ad E s.heap.size) args s cells slots (fA ad s.heap.size)) (F0 m pc ls []) :=
  W.vret V.1 V.2.1 V.2.2.2.2.2.1 (fun t ht hW => ⟨⟨(), rfl, trivial, kEnd_of V h ht hW⟩, h.2.2.F ht⟩) h.2.2.2.2 hdg V.2.2.2.2.2.2.1
/-! calls -/
/-- what the tables say of an own instance method -/
def kY (C : String) (y : MethodName) (bytes : ByteArray) (maxL : Nat) (rt : Option FieldType) (n : Nat) : Prop := Cond.instanceMethod y ∈ kWA ∧ Cond.selects C y y ∈ kWA ∧ Cond.initialized C ∈ kWA ∧ Cond.code y bytes maxL rt ∈ kWA ∧ y.cls = C ∧ y.cls ≠ "java/lang/invoke/MethodHandle" ∧ y.cls ≠ "java/lang/invoke/VarHandle" ∧ (parseMethodDescriptor y.desc).map (fun d => d.parameters.length) = some n
/-- of a static one -/
def kYs (y : MethodName) (bytes : ByteArray) (maxL : Nat) (rt : Option FieldType) (n : Nat) : Prop := Cond.static y ∈ kWA ∧ Cond.initialized y.cls ∈ kWA ∧ Cond.code y bytes maxL rt ∈ kWA ∧ y.cls ≠ "java/lang/invoke/MethodHandle" ∧ y.cls ≠ "java/lang/invoke/VarHandle" ∧ (parseMethodDescriptor y.desc).map (fun d => d.parameters.length) = some n
theorem kY_good {y : MethodName} {bytes : ByteArray} {maxL : Nat} {rt : Option FieldType} (h : Cond.code y bytes maxL rt ∈ kWA) : GoodIn kWA (Cond.code y bytes maxL rt :: kWA) := fun w hw => (List.mem_cons.mp hw).elim (fun e => by rw [e]; exact ⟨h, kWA_good _ h⟩) (fun h2 => ⟨h2, kWA_good w h2⟩)
variable {y : MethodName} {bytes : ByteArray} {maxL n mc ms index : Nat} {rt : Option FieldType} {rm : Room} {as : List Value} {C : String}
theorem kr_runV {Qc : Array Value → State → Outcome → State → Prop} {pl : Nat} (V : kV p s m args meth c cc own nL ret D cI cZ cO) (h : kH s H locs D ad E X) (hY : kY C y bytes maxL rt n) (w1 : Cond.methodLink own index y ∈ kWA)
    (hM : Met l y (Cond.code y bytes maxL rt :: kWA) rm (kP (.ref (ad pl) :: as) D cI cZ cO ad E H.size) Qc mc ms (fA ad H.size))
    (hrc : rm.cells = mc) (hrs : rm.slots = ms) (hR : rm.frames + 1 ≤ R.frames ∧ 8 + (maxL + 11) + rm.locals ≤ R.locals) (hpl : pl < 109) {ci : Nat} {fs : List Value} (he : E pl = .inr (ci, fs)) {T : u_T} {N : Nat} (hc : vwCl[ci]? = some (C, T, N)) (hn : as.length = n) (hsz : ls.size = nL) (hroom : (rest.map fun v => v.category).sum ≤ 8) (hdg : decode cc pc = .ok (.invokevirtual index, 3)) (hf : cells + mc ≤ R.cells ∧ slots + ms ≤ R.slots) {st : List Value} (hst : st = as.reverse ++ .ref (ad pl) :: rest) :
    va_Run p l e R s m args below meth c H locs cells slots mc ms (F0 m pc ls st) rest (Qc (Value.ref (ad pl) :: as).toArray) (fA ad H.size) := by
  have V' := V
  obtain ⟨hx, hb, hml, hown, hts, hr, hlk, hK⟩ := V
  obtain ⟨y1, y2, y3, y4, y5⟩ := hY
  refine va_runV (As := as) (rest := rest) (C := C) (b := ad pl) (nL := nL) ⟨hx, hb, hml, hown, hts⟩ hM (cwV n hts (fun w hw => ?_) rfl hrc hrs y5 hR) ⟨kP_blind, va_recv hK h.1 (ci := ci) (q0 := pl) hc (by rw [kC_get hpl, he]), fun U hU hW => kH_pre h V' U hU hW⟩ rfl hn hsz hst (lv_room hroom) hdg hf
  rcases List.mem_append.mp hw with hw | hw
  · simp only [List.mem_cons, List.not_mem_nil, or_false] at hw
    rcases hw with rfl | rfl | rfl | rfl
    · exact ⟨w1, kWA_good _ w1⟩
    · exact ⟨y1, kWA_good _ y1⟩
    · exact ⟨y2, kWA_good _ y2⟩
    · exact ⟨y3, kWA_good _ y3⟩
  · exact kY_good y4 w hw
theorem kr_runS {Qc : Array Value → State → Outcome → State → Prop} (V : kV p s m args meth c cc own nL ret D cI cZ cO) (h : kH s H locs D ad E X) (hY : kYs y bytes maxL rt n) (w1 : Cond.methodLink own index y ∈ kWA)
    (hM : Met l y (Cond.code y bytes maxL rt :: kWA) rm (kP as D cI cZ cO ad E H.size) Qc mc ms (fA ad H.size))
    (hrc : rm.cells = mc) (hrs : rm.slots = ms) (hR : rm.frames + 1 ≤ R.frames ∧ 8 + (maxL + 11) + rm.locals ≤ R.locals) (hn : as.length = n) (hsz : ls.size = nL) (hroom : (rest.map fun v => v.category).sum ≤ 8) (hdg : decode cc pc = .ok (.invokestatic index, 3)) (hf : cells + mc ≤ R.cells ∧ slots + ms ≤ R.slots) {st : List Value} (hst : st = as.reverse ++ rest) :
    va_Run p l e R s m args below meth c H locs cells slots mc ms (F0 m pc ls st) rest (Qc as.toArray) (fA ad H.size) := by
  have V' := V
  obtain ⟨hx, hb, hml, hown, hts, hr, hlk, hK⟩ := V
  obtain ⟨y1, y2, y3, y4⟩ := hY
  refine va_runS (As := as) (rest := rest) (nL := nL) ⟨hx, hb, hml, hown, hts⟩ hM (va_cwS n hts (fun w hw => ?_) rfl hrc hrs y4 hR) ⟨kP_blind, fun U hU hW => kH_pre h V' U hU hW⟩ rfl hn hsz hst (lv_room hroom) hdg hf
  rcases List.mem_append.mp hw with hw | hw
  · simp only [List.mem_cons, List.not_mem_nil, or_false] at hw
    rcases hw with rfl | rfl | rfl
    · exact ⟨w1, kWA_good _ w1⟩
    · exact ⟨y1, kWA_good _ y1⟩
    · exact ⟨y2, kWA_good _ y2⟩
  · exact kY_good y3 w hw
theorem kr_calli {r : Int32} {a : Array Value} {st : List Value} (h : kH s H locs D ad E X) (hr : va_Run p l e R s m args below meth c H locs cells slots mc ms (F0 m pc ls st) rest (kQi r D cI cZ cO ad E' H.size a) (fA ad H.size)) (kk : ∀ (H1 : Heap) (locs1 : List Loc), kH s H1 locs1 D ad E' X → W p l e R s m args below meth c H1 locs1 (cells + mc) (slots + ms) Q (F0 m (pc + 3) ls (.int r :: rest))) : W p l e R s m args below meth c H locs cells slots Q (F0 m pc ls st) := by
  refine va_calli hr h.2.2 (fun q _ h2 => fA_mono h.2.2.1 h2) (fun q h2 => fA_mono h.2.2.1 h2) (fun r' u t H1 locs1 ht hvm hp hB hz hk hS => ?_)
  subst hp
  rw [← ht] at hk hS ⊢
  exact kk _ _ (kH_join h hB.1 hB.2.2 hk hS)
theorem kr_calll {r : Int64} {a : Array Value} {st : List Value} (h : kH s H locs D ad E X) (hr : va_Run p l e R s m args below meth c H locs cells slots mc ms (F0 m pc ls st) rest (kQl r D cI cZ cO ad E' H.size a) (fA ad H.size)) (kk : ∀ (H1 : Heap) (locs1 : List Loc), kH s H1 locs1 D ad E' X → W p l e R s m args below meth c H1 locs1 (cells + mc) (slots + ms) Q (F0 m (pc + 3) ls (.long r :: rest))) : W p l e R s m args below meth c H locs cells slots Q (F0 m pc ls st) := by
  refine va_calll hr h.2.2 (fun q _ h2 => fA_mono h.2.2.1 h2) (fun q h2 => fA_mono h.2.2.1 h2) (fun r' u t H1 locs1 ht hvm hp hB hz hk hS => ?_)
  subst hp
  rw [← ht] at hk hS ⊢
  exact kk _ _ (kH_join h hB.1 hB.2.2 hk hS)
theorem kr_calld {r : UInt64} {a : Array Value} {st : List Value} (h : kH s H locs D ad E X) (hr : va_Run p l e R s m args below meth c H locs cells slots mc ms (F0 m pc ls st) rest (kQd r D cI cZ cO ad E' H.size a) (fA ad H.size)) (kk : ∀ (H1 : Heap) (locs1 : List Loc), kH s H1 locs1 D ad E' X → W p l e R s m args below meth c H1 locs1 (cells + mc) (slots + ms) Q (F0 m (pc + 3) ls (.double r :: rest))) : W p l e R s m args below meth c H locs cells slots Q (F0 m pc ls st) := by
  refine va_calld hr h.2.2 (fun q _ h2 => fA_mono h.2.2.1 h2) (fun q h2 => fA_mono h.2.2.1 h2) (fun r' u t H1 locs1 ht hvm hp hB hz hk hS => ?_)
  subst hp
  rw [← ht] at hk hS ⊢
  exact kk _ _ (kH_join h hB.1 hB.2.2 hk hS)
theorem kr_callv {a : Array Value} {st : List Value} (h : kH s H locs D ad E X) (hr : va_Run p l e R s m args below meth c H locs cells slots mc ms (F0 m pc ls st) rest (kQv D cI cZ cO ad E' H.size a) (fA ad H.size)) (kk : ∀ (H1 : Heap) (locs1 : List Loc), kH s H1 locs1 D ad E' X → W p l e R s m args below meth c H1 locs1 (cells + mc) (slots + ms) Q (F0 m (pc + 3) ls rest)) : W p l e R s m args below meth c H locs cells slots Q (F0 m pc ls st) := by
  refine va_callv hr h.2.2 (fun q _ h2 => fA_mono h.2.2.1 h2) (fun q h2 => fA_mono h.2.2.1 h2) (fun u t H1 locs1 ht hvm hp hB hz hk hS => ?_)
  rw [← ht] at hk hS ⊢
  exact kk _ _ (kH_join h hB.1 hB.2.2 hk hS)
/-- a method's contract out of its walk -/
theorem kr_met {Qc : Nat → Array Value → State → Outcome → State → Prop} {lv : List (Nat × Value)} (hy : plainName y.cls = true) (hlen : (lg_sl as).length ≤ maxL) (hlv : lv_args 0 as = lv)
    (body : ∀ (p : Program) (e : Env) (s : State) (m : MethodId) (below : List Frame) (meth : Method) (c : Code) (ls : Array Slot), kV p s m as.toArray meth c bytes y.cls maxL rt D cI cZ cO → kH s s.heap [] D ad E [] → lv_has ls maxL lv → W p l e rm s m as.toArray below meth c s.heap [] 0 0 (MQ below (Qc s.heap.size) as.toArray s mc ms (fA ad s.heap.size)) (F0 m 0 ls [])) (sz : Nat) :
    Met l y (Cond.code y bytes maxL rt :: kWA) rm (kP as D cI cZ cO ad E sz) (Qc sz) mc ms (fA ad sz) := by
  refine Met.ofW (cc := bytes) (maxL := maxL) (ret := rt) hy rfl ?_
  intro p e s m args below meth c s₁ B hml hv
  obtain ⟨rfl, hsz, hP, hK, hD0⟩ := hv
  have hx := B.exec
  have hb := B.bytes
  have hr := B.returns
  have hts := atoms_spec (ws := Cond.code y bytes maxL rt :: kWA) B.pre
  have hown : s.vm.findClass y.cls = some m.cls := findClass_of_methodNamed B.named
  have hlocks := B.notSynchronized
  subst hsz
  have hl := lv_entry as (n := maxL) hlen
  rw [lg_entry_eq]
  rw [hlv] at hl
  have hD := hD0.self (sz := s.heap.size)
  rw [fA_eq] at hD
  refine body p e s m below meth c _ ⟨hx, hb, hml, hown, fun w hw => hts w (List.mem_cons_of_mem _ hw), hr, hlocks, hK⟩ ⟨?_, ?_, va_S.rf⟩ hl
  · rw [List.append_nil]; exact hP
  · rw [List.append_nil]; exact hD
end KR
end
section
/-! ROWS OF SINGLE FIELDS AND PLACES -/
abbrev kHE (s : State) (H : Heap) (locs : List Loc) (D : va_G) (ad : Nat → Nat) (cI cZ cO : ClassId) (k mo : kS) (X : va_W) : Prop := kH s H locs D ad (kE ad cI cZ cO k mo) X
theorem kq_w {B j : Nat} (hB : kB B) (hj : j < 15) : B + j < 109 := by rcases hB with rfl | rfl <;> omega
theorem kq_B {B : Nat} (hB : kB B) : B < 109 := kq_w (j := 0) hB (by decide)
theorem kq_past {B i : Nat} (hB : kB B) (hi : i < 12) : kpb B + i < 109 := by
  rcases hB with rfl | rfl
  · show 45 + i < 109; omega
  · show 57 + i < 109; omega
theorem kE_pastB {ad : Nat → Nat} {cI cZ cO : ClassId} {k mo : kS} {B i : Nat} (hB : kB B) (hi : i < 12) : kE ad cI cZ cO k mo (kpb B + i) = .inl (cI, 15, .inl (k (kpb B + i))) := by
  rcases hB with rfl | rfl
  · exact kE_past (show 45 ≤ 45 + i by omega) (show 45 + i < 69 by omega)
  · exact kE_past (show 45 ≤ 57 + i by omega) (show 57 + i < 69 by omega)
theorem kE_stepsI {ad : Nat → Nat} {cI cZ cO : ClassId} {k mo : kS} {i : Nat} : kE ad cI cZ cO k mo (69 + i) = .inl (cI, 40, .inl (k (69 + i))) := kE_steps (Nat.le_add_right _ _)
def kU (P : Nat) : Prop := P = 12 ∨ P = 13
theorem kq_U {P : Nat} (h : kU P) : P < 109 := by rcases h with rfl | rfl <;> decide
theorem kE_U {ad : Nat → Nat} {cI cZ cO : ClassId} {k mo : kS} {P : Nat} (h : kU P) : kE ad cI cZ cO k mo P = .inl (cI, 40, .inl (mo P)) := by rcases h with rfl | rfl <;> rfl
theorem k15 : kB 15 := Or.inl rfl
theorem k30 : kB 30 := Or.inr rfl
theorem kU12 : kU 12 := Or.inl rfl
theorem kU13 : kU 13 := Or.inr rfl
theorem kidx {i : Int32} {n : Nat} (h : ¬ (i < 0 ∨ n ≤ i.toNatClampNeg)) : i.toNatClampNeg < n := Nat.not_le.mp fun q => h (Or.inr q)
theorem kif {α : Type} {c : Prop} [Decidable c] {x : Option α} {o : α} (h : (if c then none else x) = some o) : ¬ c ∧ x = some o := by
  by_cases hc : c
  · rw [if_pos hc] at h; cases h
  · rw [if_neg hc] at h; exact ⟨hc, h⟩
theorem kpos {α : Type} {c : Prop} [Decidable c] {a b : Option α} {o : Option α} (hc : c) (h : (if c then a else b) = o) : a = o := by rw [if_pos hc] at h; exact h
theorem kneg {α : Type} {c : Prop} [Decidable c] {a b : Option α} {o : Option α} (hc : ¬ c) (h : (if c then a else b) = o) : b = o := by rw [if_neg hc] at h; exact h
theorem kbind {α β : Type} {x : Option α} {f : α → Option β} {o : β} (h : x.bind f = some o) : ∃ a, x = some a ∧ f a = some o := by
  cases x with
  | none => cases h
  | some a => exact ⟨a, rfl, h⟩
/-- a use of cells ahead of what follows -/
def kadd {α : Type} (a b : Nat) (o : Option (α × Nat × Nat)) : Option (α × Nat × Nat) := o.map fun x => (x.1, a + x.2.1, b + x.2.2)
theorem kadd_some {α : Type} {a b : Nat} {o : Option (α × Nat × Nat)} {out : α × Nat × Nat} (h : kadd a b o = some out) : ∃ x, o = some x ∧ out = (x.1, a + x.2.1, b + x.2.2) := by
  cases o with
  | none => cases h
  | some x => exact ⟨x, rfl, (Option.some.inj h).symm⟩
theorem kne {x : Int32} {n : Int} (h : ¬ x = Int32.ofInt n) (h1 : -2147483648 ≤ n) (h2 : n < 2147483648) : x.toInt ≠ n := fun e => h (by
  rw [← e, Int32.ofInt_toInt])
section KP
variable {p : Program} {l : Launch} {e : Env} {R : Room} {s : State} {mm : MethodId} {args : Array Value} {below : List Frame} {meth : Method} {c : Code} {H : Heap} {locs : List Loc} {cells slots : Nat} {Q : State → Prop}
variable {cc : ByteArray} {own : String} {nL : Nat} {ret : Option FieldType} {D : va_G} {cI cZ cO : ClassId} {ad : Nat → Nat} {k mo : kS} {X : va_W} {pc : Nat} {ls : Array Slot} {rest : List Value}
theorem kst_o {a q : Nat} {f : Nat → Int32} (h : a ≠ q) : kE ad cI cZ cO (kst k q f) mo a = kE ad cI cZ cO k mo a := kE_dep (kst_ne k f h) rfl
theorem kst_oM {a q : Nat} {f : Nat → Int32} (h : a ≠ q) : kE ad cI cZ cO k (kst mo q f) a = kE ad cI cZ cO k mo a := kE_dep rfl (kst_ne mo f h)
theorem kr_iastK (V : kV p s mm args meth c cc own nL ret D cI cZ cO) (h : kHE s H locs D ad cI cZ cO k mo X) {q : Nat} (hq : q < 109) {n : Nat} (hf : ∀ k : kS, kE ad cI cZ cO k mo q = .inl (cI, n, .inl (k q))) {i x : Int32} (hi : ¬ (i < 0 ∨ n ≤ i.toNatClampNeg)) (hdg : decode cc pc = .ok (.iastore, 1))
    (kk : ∀ (H1 : Heap) (locs1 : List Loc), kHE s H1 locs1 D ad cI cZ cO (kst k q (upd (k q) i.toNatClampNeg x)) mo X → W p l e R s mm args below meth c H1 locs1 cells slots Q (F0 mm (pc + 1) ls rest)) : W p l e R s mm args below meth c H locs cells slots Q (F0 mm pc ls (.int x :: .int i :: .ref (ad q) :: rest)) :=
  kr_iast V h hq (hf k) hi (by rw [hf, kst_eq]) (fun a ha => kst_o ha) hdg kk
theorem kr_zastK (V : kV p s mm args meth c cc own nL ret D cI cZ cO) (h : kHE s H locs D ad cI cZ cO k mo X) {q : Nat} (hq : q < 109) {n : Nat} (hf : ∀ k : kS, kE ad cI cZ cO k mo q = .inl (cZ, n, .inl (k q))) {i x : Int32} (hi : ¬ (i < 0 ∨ n ≤ i.toNatClampNeg)) (hdg : decode cc pc = .ok (.bastore, 1))
    (kk : ∀ (H1 : Heap) (locs1 : List Loc), kHE s H1 locs1 D ad cI cZ cO (kst k q (upd (k q) i.toNatClampNeg (vp_nar .boolean x))) mo X → W p l e R s mm args below meth c H1 locs1 cells slots Q (F0 mm (pc + 1) ls rest)) : W p l e R s mm args below meth c H locs cells slots Q (F0 mm pc ls (.int x :: .int i :: .ref (ad q) :: rest)) :=
  kr_zast V h hq (hf k) hi (by rw [hf, kst_eq]) (fun a ha => kst_o ha) hdg kk
theorem kr_iastM (V : kV p s mm args meth c cc own nL ret D cI cZ cO) (h : kHE s H locs D ad cI cZ cO k mo X) {q : Nat} (hq : q < 109) {n : Nat} (hf : ∀ mo : kS, kE ad cI cZ cO k mo q = .inl (cI, n, .inl (mo q))) {i x : Int32} (hi : ¬ (i < 0 ∨ n ≤ i.toNatClampNeg)) (hdg : decode cc pc = .ok (.iastore, 1))
    (kk : ∀ (H1 : Heap) (locs1 : List Loc), kHE s H1 locs1 D ad cI cZ cO k (kst mo q (upd (mo q) i.toNatClampNeg x)) X → W p l e R s mm args below meth c H1 locs1 cells slots Q (F0 mm (pc + 1) ls rest)) : W p l e R s mm args below meth c H locs cells slots Q (F0 mm pc ls (.int x :: .int i :: .ref (ad q) :: rest)) :=
  kr_iast V h hq (hf mo) hi (by rw [hf, kst_eq]) (fun a ha => kst_oM ha) hdg kk
theorem kr_copyK (V : kV p s mm args meth c cc own nL ret D cI cZ cO) (h : kHE s H locs D ad cI cZ cO k mo X) (hsz : ls.size = nL) {index : Nat} (w1 : Cond.methodLink own index arraycopyName ∈ kWA) {q0 q : Nat} (hq0 : q0 < 109) (hq : q < 109) {n0 n1 : Nat} (hf0 : ∀ k : kS, kE ad cI cZ cO k mo q0 = .inl (cI, n0, .inl (k q0))) (hf : ∀ k : kS, kE ad cI cZ cO k mo q = .inl (cI, n1, .inl (k q))) {sp dp n : Int32} (hok : ¬ (sp < 0 ∨ dp < 0 ∨ n < 0 ∨ n0 < sp.toNatClampNeg + n.toNatClampNeg ∨ n1 < dp.toNatClampNeg + n.toNatClampNeg))
    (hfr : 1 ≤ R.frames) (hlo : (rest.map fun v => v.category).sum + 18 ≤ R.locals) (hdg : decode cc pc = .ok (.invokestatic index, 3))
    (kk : ∀ (H1 : Heap) (locs1 : List Loc), kHE s H1 locs1 D ad cI cZ cO (kst k q (va_cpy (k q0) (k q) sp.toNatClampNeg dp.toNatClampNeg n.toNatClampNeg)) mo X → W p l e R s mm args below meth c H1 locs1 cells slots Q (F0 mm (pc + 3) ls rest)) : W p l e R s mm args below meth c H locs cells slots Q (F0 mm pc ls (.int n :: .int dp :: .ref (ad q) :: .int sp :: .ref (ad q0) :: rest)) := by
  simp only [not_or, Nat.not_lt] at hok
  exact kr_copy V h hsz w1 knative_arraycopyName kstatic_arraycopyName kz_System hq0 hq (hf0 k) (hf k) hok.1 hok.2.1 hok.2.2.1 hok.2.2.2.1 hok.2.2.2.2 hfr hlo (by rw [hf, kst_eq]) (fun a ha => kst_o ha) hdg kk
theorem kr_copyM (V : kV p s mm args meth c cc own nL ret D cI cZ cO) (h : kHE s H locs D ad cI cZ cO k mo X) (hsz : ls.size = nL) {index : Nat} (w1 : Cond.methodLink own index arraycopyName ∈ kWA) {q0 q : Nat} (hq0 : q0 < 109) (hq : q < 109) {n0 n1 : Nat} (hf0 : ∀ mo : kS, kE ad cI cZ cO k mo q0 = .inl (cI, n0, .inl (mo q0))) (hf : ∀ mo : kS, kE ad cI cZ cO k mo q = .inl (cI, n1, .inl (mo q))) {sp dp n : Int32} (hok : ¬ (sp < 0 ∨ dp < 0 ∨ n < 0 ∨ n0 < sp.toNatClampNeg + n.toNatClampNeg ∨ n1 < dp.toNatClampNeg + n.toNatClampNeg))
    (hfr : 1 ≤ R.frames) (hlo : (rest.map fun v => v.category).sum + 18 ≤ R.locals) (hdg : decode cc pc = .ok (.invokestatic index, 3))
    (kk : ∀ (H1 : Heap) (locs1 : List Loc), kHE s H1 locs1 D ad cI cZ cO k (kst mo q (va_cpy (mo q0) (mo q) sp.toNatClampNeg dp.toNatClampNeg n.toNatClampNeg)) X → W p l e R s mm args below meth c H1 locs1 cells slots Q (F0 mm (pc + 3) ls rest)) : W p l e R s mm args below meth c H locs cells slots Q (F0 mm pc ls (.int n :: .int dp :: .ref (ad q) :: .int sp :: .ref (ad q0) :: rest)) := by
  simp only [not_or, Nat.not_lt] at hok
  exact kr_copy V h hsz w1 knative_arraycopyName kstatic_arraycopyName kz_System hq0 hq (hf0 mo) (hf mo) hok.1 hok.2.1 hok.2.2.1 hok.2.2.2.1 hok.2.2.2.2 hfr hlo (by rw [hf, kst_eq]) (fun a ha => kst_oM ha) hdg kk
theorem kr_mn (V : kV p s mm args meth c cc own nL ret D cI cZ cO) (hsz : ls.size = nL) {index : Nat} (w1 : Cond.methodLink own index Lib.Math.min.name ∈ kWA) (hfr : 1 ≤ R.frames) (hlo : (rest.map fun v => v.category).sum + 13 ≤ R.locals) (hc : cells ≤ R.cells) (hs : slots ≤ R.slots) {x y : Int32} (hdg : decode cc pc = .ok (.invokestatic index, 3))
    (kk : W p l e R s mm args below meth c H locs cells slots Q (F0 mm (pc + 3) ls (.int (if y < x then y else x) :: rest))) : W p l e R s mm args below meth c H locs cells slots Q (F0 mm pc ls (.int y :: .int x :: rest)) :=
  kr_min V hsz w1 kstatic_yJ9_min_7cf53 kz_Math kd_yJ9_min_7cf53 hfr hlo hc hs hdg kk

theorem kg_X0_9 (V : kV p s mm args meth c cc RX0 nL ret D cI cZ cO) (h : kHE s H locs D ad cI cZ cO k mo X) (hdg : decode cc pc = .ok (.getfield 9, 3)) (kk : W p l e R s mm args below meth c H locs cells slots Q (F0 mm (pc + 3) ls (.int (k 1 0) :: rest))) : W p l e R s mm args below meth c H locs cells slots Q (F0 mm pc ls (.ref (ad 1) :: rest)) :=
  kr_get V h (by decide) kE_1 (C := RX0) (T := TX0) (N := 6) rfl kX0 0 (by decide) kf_X0_9 rfl hdg kk
theorem kp_X0_9 (V : kV p s mm args meth c cc RX0 nL ret D cI cZ cO) (h : kHE s H locs D ad cI cZ cO k mo X) {x : Int32} (hdg : decode cc pc = .ok (.putfield 9, 3)) (kk : ∀ (H1 : Heap) (locs1 : List Loc), kHE s H1 locs1 D ad cI cZ cO (kst k 1 (upd (k 1) 0 x)) mo X → W p l e R s mm args below meth c H1 locs1 cells slots Q (F0 mm (pc + 3) ls rest)) : W p l e R s mm args below meth c H locs cells slots Q (F0 mm pc ls (.int x :: .ref (ad 1) :: rest)) :=
  kr_put V h (by decide) kE_1 (C := RX0) (T := TX0) (N := 6) rfl kX0 tyX0 tyX0_ok nmX0 0 (by decide) kf_X0_9 rfl (by decide +kernel) (by show 0 < 6; decide) (by rw [kE_1, kst_eq]; simp [upd]) (fun a ha => kst_o ha) hdg kk
theorem kg_X4_119 (V : kV p s mm args meth c cc RX4 nL ret D cI cZ cO) (h : kHE s H locs D ad cI cZ cO k mo X) (hdg : decode cc pc = .ok (.getfield 119, 3)) (kk : W p l e R s mm args below meth c H locs cells slots Q (F0 mm (pc + 3) ls (.int (k 1 0) :: rest))) : W p l e R s mm args below meth c H locs cells slots Q (F0 mm pc ls (.ref (ad 1) :: rest)) :=
  kr_get V h (by decide) kE_1 (C := RX0) (T := TX0) (N := 6) rfl kX0 0 (by decide) kf_X4_119 rfl hdg kk
theorem kg_X5_167 (V : kV p s mm args meth c cc RX5 nL ret D cI cZ cO) (h : kHE s H locs D ad cI cZ cO k mo X) (hdg : decode cc pc = .ok (.getfield 167, 3)) (kk : W p l e R s mm args below meth c H locs cells slots Q (F0 mm (pc + 3) ls (.int (k 1 0) :: rest))) : W p l e R s mm args below meth c H locs cells slots Q (F0 mm pc ls (.ref (ad 1) :: rest)) :=
  kr_get V h (by decide) kE_1 (C := RX0) (T := TX0) (N := 6) rfl kX0 0 (by decide) kf_X5_167 rfl hdg kk
theorem kg_X0_15 (V : kV p s mm args meth c cc RX0 nL ret D cI cZ cO) (h : kHE s H locs D ad cI cZ cO k mo X) (hdg : decode cc pc = .ok (.getfield 15, 3)) (kk : W p l e R s mm args below meth c H locs cells slots Q (F0 mm (pc + 3) ls (.ref (ad 2) :: rest))) : W p l e R s mm args below meth c H locs cells slots Q (F0 mm pc ls (.ref (ad 1) :: rest)) :=
  kr_get V h (by decide) kE_1 (C := RX0) (T := TX0) (N := 6) rfl kX0 1 (by decide) kf_X0_15 rfl hdg kk
theorem kg_X5_66 (V : kV p s mm args meth c cc RX5 nL ret D cI cZ cO) (h : kHE s H locs D ad cI cZ cO k mo X) (hdg : decode cc pc = .ok (.getfield 66, 3)) (kk : W p l e R s mm args below meth c H locs cells slots Q (F0 mm (pc + 3) ls (.ref (ad 2) :: rest))) : W p l e R s mm args below meth c H locs cells slots Q (F0 mm pc ls (.ref (ad 1) :: rest)) :=
  kr_get V h (by decide) kE_1 (C := RX0) (T := TX0) (N := 6) rfl kX0 1 (by decide) kf_X5_66 rfl hdg kk
theorem kg_X4_82 (V : kV p s mm args meth c cc RX4 nL ret D cI cZ cO) (h : kHE s H locs D ad cI cZ cO k mo X) (hdg : decode cc pc = .ok (.getfield 82, 3)) (kk : W p l e R s mm args below meth c H locs cells slots Q (F0 mm (pc + 3) ls (.ref (ad 2) :: rest))) : W p l e R s mm args below meth c H locs cells slots Q (F0 mm pc ls (.ref (ad 1) :: rest)) :=
  kr_get V h (by decide) kE_1 (C := RX0) (T := TX0) (N := 6) rfl kX0 1 (by decide) kf_X4_82 rfl hdg kk
theorem kg_X0_19 (V : kV p s mm args meth c cc RX0 nL ret D cI cZ cO) (h : kHE s H locs D ad cI cZ cO k mo X) (hdg : decode cc pc = .ok (.getfield 19, 3)) (kk : W p l e R s mm args below meth c H locs cells slots Q (F0 mm (pc + 3) ls (.ref (ad 3) :: rest))) : W p l e R s mm args below meth c H locs cells slots Q (F0 mm pc ls (.ref (ad 1) :: rest)) :=
  kr_get V h (by decide) kE_1 (C := RX0) (T := TX0) (N := 6) rfl kX0 2 (by decide) kf_X0_19 rfl hdg kk
theorem kg_X4_66 (V : kV p s mm args meth c cc RX4 nL ret D cI cZ cO) (h : kHE s H locs D ad cI cZ cO k mo X) (hdg : decode cc pc = .ok (.getfield 66, 3)) (kk : W p l e R s mm args below meth c H locs cells slots Q (F0 mm (pc + 3) ls (.ref (ad 3) :: rest))) : W p l e R s mm args below meth c H locs cells slots Q (F0 mm pc ls (.ref (ad 1) :: rest)) :=
  kr_get V h (by decide) kE_1 (C := RX0) (T := TX0) (N := 6) rfl kX0 2 (by decide) kf_X4_66 rfl hdg kk
theorem kg_X0_23 (V : kV p s mm args meth c cc RX0 nL ret D cI cZ cO) (h : kHE s H locs D ad cI cZ cO k mo X) (hdg : decode cc pc = .ok (.getfield 23, 3)) (kk : W p l e R s mm args below meth c H locs cells slots Q (F0 mm (pc + 3) ls (.ref (ad 4) :: rest))) : W p l e R s mm args below meth c H locs cells slots Q (F0 mm pc ls (.ref (ad 1) :: rest)) :=
  kr_get V h (by decide) kE_1 (C := RX0) (T := TX0) (N := 6) rfl kX0 3 (by decide) kf_X0_23 rfl hdg kk
theorem kg_X4_134 (V : kV p s mm args meth c cc RX4 nL ret D cI cZ cO) (h : kHE s H locs D ad cI cZ cO k mo X) (hdg : decode cc pc = .ok (.getfield 134, 3)) (kk : W p l e R s mm args below meth c H locs cells slots Q (F0 mm (pc + 3) ls (.ref (ad 4) :: rest))) : W p l e R s mm args below meth c H locs cells slots Q (F0 mm pc ls (.ref (ad 1) :: rest)) :=
  kr_get V h (by decide) kE_1 (C := RX0) (T := TX0) (N := 6) rfl kX0 3 (by decide) kf_X4_134 rfl hdg kk
theorem kg_X0_26 (V : kV p s mm args meth c cc RX0 nL ret D cI cZ cO) (h : kHE s H locs D ad cI cZ cO k mo X) (hdg : decode cc pc = .ok (.getfield 26, 3)) (kk : W p l e R s mm args below meth c H locs cells slots Q (F0 mm (pc + 3) ls (.ref (ad 5) :: rest))) : W p l e R s mm args below meth c H locs cells slots Q (F0 mm pc ls (.ref (ad 1) :: rest)) :=
  kr_get V h (by decide) kE_1 (C := RX0) (T := TX0) (N := 6) rfl kX0 4 (by decide) kf_X0_26 rfl hdg kk
theorem kg_X4_141 (V : kV p s mm args meth c cc RX4 nL ret D cI cZ cO) (h : kHE s H locs D ad cI cZ cO k mo X) (hdg : decode cc pc = .ok (.getfield 141, 3)) (kk : W p l e R s mm args below meth c H locs cells slots Q (F0 mm (pc + 3) ls (.ref (ad 5) :: rest))) : W p l e R s mm args below meth c H locs cells slots Q (F0 mm pc ls (.ref (ad 1) :: rest)) :=
  kr_get V h (by decide) kE_1 (C := RX0) (T := TX0) (N := 6) rfl kX0 4 (by decide) kf_X4_141 rfl hdg kk
theorem kg_X0_31 (V : kV p s mm args meth c cc RX0 nL ret D cI cZ cO) (h : kHE s H locs D ad cI cZ cO k mo X) (hdg : decode cc pc = .ok (.getfield 31, 3)) (kk : W p l e R s mm args below meth c H locs cells slots Q (F0 mm (pc + 3) ls (.ref (ad 6) :: rest))) : W p l e R s mm args below meth c H locs cells slots Q (F0 mm pc ls (.ref (ad 1) :: rest)) :=
  kr_get V h (by decide) kE_1 (C := RX0) (T := TX0) (N := 6) rfl kX0 5 (by decide) kf_X0_31 rfl hdg kk
theorem kg_X5_148 (V : kV p s mm args meth c cc RX5 nL ret D cI cZ cO) (h : kHE s H locs D ad cI cZ cO k mo X) (hdg : decode cc pc = .ok (.getfield 148, 3)) (kk : W p l e R s mm args below meth c H locs cells slots Q (F0 mm (pc + 3) ls (.ref (ad 6) :: rest))) : W p l e R s mm args below meth c H locs cells slots Q (F0 mm pc ls (.ref (ad 1) :: rest)) :=
  kr_get V h (by decide) kE_1 (C := RX0) (T := TX0) (N := 6) rfl kX0 5 (by decide) kf_X5_148 rfl hdg kk
theorem kg_X1_9 {B : Nat} (hB : kB B) (V : kV p s mm args meth c cc RX1 nL ret D cI cZ cO) (h : kHE s H locs D ad cI cZ cO k mo X) (hdg : decode cc pc = .ok (.getfield 9, 3)) (kk : W p l e R s mm args below meth c H locs cells slots Q (F0 mm (pc + 3) ls (.int (k (B + 1) 0) :: rest))) : W p l e R s mm args below meth c H locs cells slots Q (F0 mm pc ls (.ref (ad (B + 1)) :: rest)) :=
  kr_get V h (kq_w hB (by decide)) (kE_w1 hB) (C := RX1) (T := TX1) (N := 7) rfl kX1 0 (by decide) kf_X1_9 rfl hdg kk
theorem kp_X1_9 {B : Nat} (hB : kB B) (V : kV p s mm args meth c cc RX1 nL ret D cI cZ cO) (h : kHE s H locs D ad cI cZ cO k mo X) {x : Int32} (hdg : decode cc pc = .ok (.putfield 9, 3)) (kk : ∀ (H1 : Heap) (locs1 : List Loc), kHE s H1 locs1 D ad cI cZ cO (kst k (B + 1) (upd (k (B + 1)) 0 x)) mo X → W p l e R s mm args below meth c H1 locs1 cells slots Q (F0 mm (pc + 3) ls rest)) : W p l e R s mm args below meth c H locs cells slots Q (F0 mm pc ls (.int x :: .ref (ad (B + 1)) :: rest)) :=
  kr_put V h (kq_w hB (by decide)) (kE_w1 hB) (C := RX1) (T := TX1) (N := 7) rfl kX1 tyX1 tyX1_ok nmX1 0 (by decide) kf_X1_9 rfl (by decide +kernel) (by show 0 < 7; decide) (by rw [kE_w1 hB, kst_eq]; simp [upd]) (fun a ha => kst_o ha) hdg kk
theorem kg_X4_107 {B : Nat} (hB : kB B) (V : kV p s mm args meth c cc RX4 nL ret D cI cZ cO) (h : kHE s H locs D ad cI cZ cO k mo X) (hdg : decode cc pc = .ok (.getfield 107, 3)) (kk : W p l e R s mm args below meth c H locs cells slots Q (F0 mm (pc + 3) ls (.int (k (B + 1) 0) :: rest))) : W p l e R s mm args below meth c H locs cells slots Q (F0 mm pc ls (.ref (ad (B + 1)) :: rest)) :=
  kr_get V h (kq_w hB (by decide)) (kE_w1 hB) (C := RX1) (T := TX1) (N := 7) rfl kX1 0 (by decide) kf_X4_107 rfl hdg kk
theorem kg_X5_179 {B : Nat} (hB : kB B) (V : kV p s mm args meth c cc RX5 nL ret D cI cZ cO) (h : kHE s H locs D ad cI cZ cO k mo X) (hdg : decode cc pc = .ok (.getfield 179, 3)) (kk : W p l e R s mm args below meth c H locs cells slots Q (F0 mm (pc + 3) ls (.int (k (B + 1) 0) :: rest))) : W p l e R s mm args below meth c H locs cells slots Q (F0 mm pc ls (.ref (ad (B + 1)) :: rest)) :=
  kr_get V h (kq_w hB (by decide)) (kE_w1 hB) (C := RX1) (T := TX1) (N := 7) rfl kX1 0 (by decide) kf_X5_179 rfl hdg kk
theorem kg_X1_15 {B : Nat} (hB : kB B) (V : kV p s mm args meth c cc RX1 nL ret D cI cZ cO) (h : kHE s H locs D ad cI cZ cO k mo X) (hdg : decode cc pc = .ok (.getfield 15, 3)) (kk : W p l e R s mm args below meth c H locs cells slots Q (F0 mm (pc + 3) ls (.ref (ad (B + 2)) :: rest))) : W p l e R s mm args below meth c H locs cells slots Q (F0 mm pc ls (.ref (ad (B + 1)) :: rest)) :=
  kr_get V h (kq_w hB (by decide)) (kE_w1 hB) (C := RX1) (T := TX1) (N := 7) rfl kX1 1 (by decide) kf_X1_15 rfl hdg kk
theorem kg_X4_160 {B : Nat} (hB : kB B) (V : kV p s mm args meth c cc RX4 nL ret D cI cZ cO) (h : kHE s H locs D ad cI cZ cO k mo X) (hdg : decode cc pc = .ok (.getfield 160, 3)) (kk : W p l e R s mm args below meth c H locs cells slots Q (F0 mm (pc + 3) ls (.ref (ad (B + 2)) :: rest))) : W p l e R s mm args below meth c H locs cells slots Q (F0 mm pc ls (.ref (ad (B + 1)) :: rest)) :=
  kr_get V h (kq_w hB (by decide)) (kE_w1 hB) (C := RX1) (T := TX1) (N := 7) rfl kX1 1 (by decide) kf_X4_160 rfl hdg kk
theorem kg_X1_19 {B : Nat} (hB : kB B) (V : kV p s mm args meth c cc RX1 nL ret D cI cZ cO) (h : kHE s H locs D ad cI cZ cO k mo X) (hdg : decode cc pc = .ok (.getfield 19, 3)) (kk : W p l e R s mm args below meth c H locs cells slots Q (F0 mm (pc + 3) ls (.ref (ad (B + 3)) :: rest))) : W p l e R s mm args below meth c H locs cells slots Q (F0 mm pc ls (.ref (ad (B + 1)) :: rest)) :=
  kr_get V h (kq_w hB (by decide)) (kE_w1 hB) (C := RX1) (T := TX1) (N := 7) rfl kX1 2 (by decide) kf_X1_19 rfl hdg kk
theorem kg_X5_98 {B : Nat} (hB : kB B) (V : kV p s mm args meth c cc RX5 nL ret D cI cZ cO) (h : kHE s H locs D ad cI cZ cO k mo X) (hdg : decode cc pc = .ok (.getfield 98, 3)) (kk : W p l e R s mm args below meth c H locs cells slots Q (F0 mm (pc + 3) ls (.ref (ad (B + 3)) :: rest))) : W p l e R s mm args below meth c H locs cells slots Q (F0 mm pc ls (.ref (ad (B + 1)) :: rest)) :=
  kr_get V h (kq_w hB (by decide)) (kE_w1 hB) (C := RX1) (T := TX1) (N := 7) rfl kX1 2 (by decide) kf_X5_98 rfl hdg kk
theorem kg_X4_113 {B : Nat} (hB : kB B) (V : kV p s mm args meth c cc RX4 nL ret D cI cZ cO) (h : kHE s H locs D ad cI cZ cO k mo X) (hdg : decode cc pc = .ok (.getfield 113, 3)) (kk : W p l e R s mm args below meth c H locs cells slots Q (F0 mm (pc + 3) ls (.ref (ad (B + 3)) :: rest))) : W p l e R s mm args below meth c H locs cells slots Q (F0 mm pc ls (.ref (ad (B + 1)) :: rest)) :=
  kr_get V h (kq_w hB (by decide)) (kE_w1 hB) (C := RX1) (T := TX1) (N := 7) rfl kX1 2 (by decide) kf_X4_113 rfl hdg kk
theorem kg_X1_22 {B : Nat} (hB : kB B) (V : kV p s mm args meth c cc RX1 nL ret D cI cZ cO) (h : kHE s H locs D ad cI cZ cO k mo X) (hdg : decode cc pc = .ok (.getfield 22, 3)) (kk : W p l e R s mm args below meth c H locs cells slots Q (F0 mm (pc + 3) ls (.ref (ad (B + 4)) :: rest))) : W p l e R s mm args below meth c H locs cells slots Q (F0 mm pc ls (.ref (ad (B + 1)) :: rest)) :=
  kr_get V h (kq_w hB (by decide)) (kE_w1 hB) (C := RX1) (T := TX1) (N := 7) rfl kX1 3 (by decide) kf_X1_22 rfl hdg kk
theorem kg_X4_110 {B : Nat} (hB : kB B) (V : kV p s mm args meth c cc RX4 nL ret D cI cZ cO) (h : kHE s H locs D ad cI cZ cO k mo X) (hdg : decode cc pc = .ok (.getfield 110, 3)) (kk : W p l e R s mm args below meth c H locs cells slots Q (F0 mm (pc + 3) ls (.ref (ad (B + 4)) :: rest))) : W p l e R s mm args below meth c H locs cells slots Q (F0 mm pc ls (.ref (ad (B + 1)) :: rest)) :=
  kr_get V h (kq_w hB (by decide)) (kE_w1 hB) (C := RX1) (T := TX1) (N := 7) rfl kX1 3 (by decide) kf_X4_110 rfl hdg kk
theorem kg_X1_25 {B : Nat} (hB : kB B) (V : kV p s mm args meth c cc RX1 nL ret D cI cZ cO) (h : kHE s H locs D ad cI cZ cO k mo X) (hdg : decode cc pc = .ok (.getfield 25, 3)) (kk : W p l e R s mm args below meth c H locs cells slots Q (F0 mm (pc + 3) ls (.ref (ad (B + 5)) :: rest))) : W p l e R s mm args below meth c H locs cells slots Q (F0 mm pc ls (.ref (ad (B + 1)) :: rest)) :=
  kr_get V h (kq_w hB (by decide)) (kE_w1 hB) (C := RX1) (T := TX1) (N := 7) rfl kX1 4 (by decide) kf_X1_25 rfl hdg kk
theorem kg_X4_166 {B : Nat} (hB : kB B) (V : kV p s mm args meth c cc RX4 nL ret D cI cZ cO) (h : kHE s H locs D ad cI cZ cO k mo X) (hdg : decode cc pc = .ok (.getfield 166, 3)) (kk : W p l e R s mm args below meth c H locs cells slots Q (F0 mm (pc + 3) ls (.ref (ad (B + 5)) :: rest))) : W p l e R s mm args below meth c H locs cells slots Q (F0 mm pc ls (.ref (ad (B + 1)) :: rest)) :=
  kr_get V h (kq_w hB (by decide)) (kE_w1 hB) (C := RX1) (T := TX1) (N := 7) rfl kX1 4 (by decide) kf_X4_166 rfl hdg kk
theorem kg_X1_28 {B : Nat} (hB : kB B) (V : kV p s mm args meth c cc RX1 nL ret D cI cZ cO) (h : kHE s H locs D ad cI cZ cO k mo X) (hdg : decode cc pc = .ok (.getfield 28, 3)) (kk : W p l e R s mm args below meth c H locs cells slots Q (F0 mm (pc + 3) ls (.ref (ad (B + 6)) :: rest))) : W p l e R s mm args below meth c H locs cells slots Q (F0 mm pc ls (.ref (ad (B + 1)) :: rest)) :=
  kr_get V h (kq_w hB (by decide)) (kE_w1 hB) (C := RX1) (T := TX1) (N := 7) rfl kX1 5 (by decide) kf_X1_28 rfl hdg kk
theorem kg_X5_141 {B : Nat} (hB : kB B) (V : kV p s mm args meth c cc RX5 nL ret D cI cZ cO) (h : kHE s H locs D ad cI cZ cO k mo X) (hdg : decode cc pc = .ok (.getfield 141, 3)) (kk : W p l e R s mm args below meth c H locs cells slots Q (F0 mm (pc + 3) ls (.ref (ad (B + 6)) :: rest))) : W p l e R s mm args below meth c H locs cells slots Q (F0 mm pc ls (.ref (ad (B + 1)) :: rest)) :=
  kr_get V h (kq_w hB (by decide)) (kE_w1 hB) (C := RX1) (T := TX1) (N := 7) rfl kX1 5 (by decide) kf_X5_141 rfl hdg kk
theorem kg_X1_33 {B : Nat} (hB : kB B) (V : kV p s mm args meth c cc RX1 nL ret D cI cZ cO) (h : kHE s H locs D ad cI cZ cO k mo X) (hdg : decode cc pc = .ok (.getfield 33, 3)) (kk : W p l e R s mm args below meth c H locs cells slots Q (F0 mm (pc + 3) ls (.ref (ad (B + 7)) :: rest))) : W p l e R s mm args below meth c H locs cells slots Q (F0 mm pc ls (.ref (ad (B + 1)) :: rest)) :=
  kr_get V h (kq_w hB (by decide)) (kE_w1 hB) (C := RX1) (T := TX1) (N := 7) rfl kX1 6 (by decide) kf_X1_33 rfl hdg kk
theorem kg_X5_144 {B : Nat} (hB : kB B) (V : kV p s mm args meth c cc RX5 nL ret D cI cZ cO) (h : kHE s H locs D ad cI cZ cO k mo X) (hdg : decode cc pc = .ok (.getfield 144, 3)) (kk : W p l e R s mm args below meth c H locs cells slots Q (F0 mm (pc + 3) ls (.ref (ad (B + 7)) :: rest))) : W p l e R s mm args below meth c H locs cells slots Q (F0 mm pc ls (.ref (ad (B + 1)) :: rest)) :=
  kr_get V h (kq_w hB (by decide)) (kE_w1 hB) (C := RX1) (T := TX1) (N := 7) rfl kX1 6 (by decide) kf_X5_144 rfl hdg kk
theorem kg_X3_9 {B : Nat} (hB : kB B) (V : kV p s mm args meth c cc RX3 nL ret D cI cZ cO) (h : kHE s H locs D ad cI cZ cO k mo X) (hdg : decode cc pc = .ok (.getfield 9, 3)) (kk : W p l e R s mm args below meth c H locs cells slots Q (F0 mm (pc + 3) ls (.ref (ad (B + 9)) :: rest))) : W p l e R s mm args below meth c H locs cells slots Q (F0 mm pc ls (.ref (ad (B + 8)) :: rest)) :=
  kr_get V h (kq_w hB (by decide)) (kE_w8 hB) (C := RX3) (T := TX3) (N := 2) rfl kX3 0 (by decide) kf_X3_9 rfl hdg kk
theorem kg_X3_15 {B : Nat} (hB : kB B) (V : kV p s mm args meth c cc RX3 nL ret D cI cZ cO) (h : kHE s H locs D ad cI cZ cO k mo X) (hdg : decode cc pc = .ok (.getfield 15, 3)) (kk : W p l e R s mm args below meth c H locs cells slots Q (F0 mm (pc + 3) ls (.ref (ad (B + 10)) :: rest))) : W p l e R s mm args below meth c H locs cells slots Q (F0 mm pc ls (.ref (ad (B + 8)) :: rest)) :=
  kr_get V h (kq_w hB (by decide)) (kE_w8 hB) (C := RX3) (T := TX3) (N := 2) rfl kX3 1 (by decide) kf_X3_15 rfl hdg kk
theorem kg_X4_97 {B : Nat} (hB : kB B) (V : kV p s mm args meth c cc RX4 nL ret D cI cZ cO) (h : kHE s H locs D ad cI cZ cO k mo X) (hdg : decode cc pc = .ok (.getfield 97, 3)) (kk : W p l e R s mm args below meth c H locs cells slots Q (F0 mm (pc + 3) ls (.ref (ad (B + 10)) :: rest))) : W p l e R s mm args below meth c H locs cells slots Q (F0 mm pc ls (.ref (ad (B + 8)) :: rest)) :=
  kr_get V h (kq_w hB (by decide)) (kE_w8 hB) (C := RX3) (T := TX3) (N := 2) rfl kX3 1 (by decide) kf_X4_97 rfl hdg kk
theorem kg_X2_9 {B : Nat} (hB : kB B) (V : kV p s mm args meth c cc RX2 nL ret D cI cZ cO) (h : kHE s H locs D ad cI cZ cO k mo X) (hdg : decode cc pc = .ok (.getfield 9, 3)) (kk : W p l e R s mm args below meth c H locs cells slots Q (F0 mm (pc + 3) ls (.ref (ad (B + 12)) :: rest))) : W p l e R s mm args below meth c H locs cells slots Q (F0 mm pc ls (.ref (ad (B + 11)) :: rest)) :=
  kr_get V h (kq_w hB (by decide)) (kE_w11 hB) (C := RX2) (T := TX2) (N := 2) rfl kX2 0 (by decide) kf_X2_9 rfl hdg kk
theorem kg_X2_15 {B : Nat} (hB : kB B) (V : kV p s mm args meth c cc RX2 nL ret D cI cZ cO) (h : kHE s H locs D ad cI cZ cO k mo X) (hdg : decode cc pc = .ok (.getfield 15, 3)) (kk : W p l e R s mm args below meth c H locs cells slots Q (F0 mm (pc + 3) ls (.ref (ad (B + 13)) :: rest))) : W p l e R s mm args below meth c H locs cells slots Q (F0 mm pc ls (.ref (ad (B + 11)) :: rest)) :=
  kr_get V h (kq_w hB (by decide)) (kE_w11 hB) (C := RX2) (T := TX2) (N := 2) rfl kX2 1 (by decide) kf_X2_15 rfl hdg kk
theorem kg_X4_40 {B : Nat} (hB : kB B) (V : kV p s mm args meth c cc RX4 nL ret D cI cZ cO) (h : kHE s H locs D ad cI cZ cO k mo X) (hdg : decode cc pc = .ok (.getfield 40, 3)) (kk : W p l e R s mm args below meth c H locs cells slots Q (F0 mm (pc + 3) ls (.ref (ad 1) :: rest))) : W p l e R s mm args below meth c H locs cells slots Q (F0 mm pc ls (.ref (ad B) :: rest)) :=
  kr_get V h (kq_B hB) (kE_w0 hB) (C := RX4) (T := TX4) (N := 6) rfl kX4 0 (by decide) kf_X4_40 rfl hdg kk
theorem kg_X4_12 {B : Nat} (hB : kB B) (V : kV p s mm args meth c cc RX4 nL ret D cI cZ cO) (h : kHE s H locs D ad cI cZ cO k mo X) (hdg : decode cc pc = .ok (.getfield 12, 3)) (kk : W p l e R s mm args below meth c H locs cells slots Q (F0 mm (pc + 3) ls (.ref (ad (B + 1)) :: rest))) : W p l e R s mm args below meth c H locs cells slots Q (F0 mm pc ls (.ref (ad B) :: rest)) :=
  kr_get V h (kq_B hB) (kE_w0 hB) (C := RX4) (T := TX4) (N := 6) rfl kX4 1 (by decide) kf_X4_12 rfl hdg kk
theorem kg_X5_81 {B : Nat} (hB : kB B) (V : kV p s mm args meth c cc RX5 nL ret D cI cZ cO) (h : kHE s H locs D ad cI cZ cO k mo X) (hdg : decode cc pc = .ok (.getfield 81, 3)) (kk : W p l e R s mm args below meth c H locs cells slots Q (F0 mm (pc + 3) ls (.ref (ad (B + 1)) :: rest))) : W p l e R s mm args below meth c H locs cells slots Q (F0 mm pc ls (.ref (ad B) :: rest)) :=
  kr_get V h (kq_B hB) (kE_w0 hB) (C := RX4) (T := TX4) (N := 6) rfl kX4 1 (by decide) kf_X5_81 rfl hdg kk
theorem kg_X4_21 {B : Nat} (hB : kB B) (V : kV p s mm args meth c cc RX4 nL ret D cI cZ cO) (h : kHE s H locs D ad cI cZ cO k mo X) (hdg : decode cc pc = .ok (.getfield 21, 3)) (kk : W p l e R s mm args below meth c H locs cells slots Q (F0 mm (pc + 3) ls (.ref (ad (B + 8)) :: rest))) : W p l e R s mm args below meth c H locs cells slots Q (F0 mm pc ls (.ref (ad B) :: rest)) :=
  kr_get V h (kq_B hB) (kE_w0 hB) (C := RX4) (T := TX4) (N := 6) rfl kX4 2 (by decide) kf_X4_21 rfl hdg kk
theorem kg_X5_56 {B : Nat} (hB : kB B) (V : kV p s mm args meth c cc RX5 nL ret D cI cZ cO) (h : kHE s H locs D ad cI cZ cO k mo X) (hdg : decode cc pc = .ok (.getfield 56, 3)) (kk : W p l e R s mm args below meth c H locs cells slots Q (F0 mm (pc + 3) ls (.ref (ad (B + 8)) :: rest))) : W p l e R s mm args below meth c H locs cells slots Q (F0 mm pc ls (.ref (ad B) :: rest)) :=
  kr_get V h (kq_B hB) (kE_w0 hB) (C := RX4) (T := TX4) (N := 6) rfl kX4 2 (by decide) kf_X5_56 rfl hdg kk
theorem kg_X4_28 {B : Nat} (hB : kB B) (V : kV p s mm args meth c cc RX4 nL ret D cI cZ cO) (h : kHE s H locs D ad cI cZ cO k mo X) (hdg : decode cc pc = .ok (.getfield 28, 3)) (kk : W p l e R s mm args below meth c H locs cells slots Q (F0 mm (pc + 3) ls (.ref (ad (B + 11)) :: rest))) : W p l e R s mm args below meth c H locs cells slots Q (F0 mm pc ls (.ref (ad B) :: rest)) :=
  kr_get V h (kq_B hB) (kE_w0 hB) (C := RX4) (T := TX4) (N := 6) rfl kX4 3 (by decide) kf_X4_28 rfl hdg kk
theorem kg_X4_32 {B : Nat} (hB : kB B) (V : kV p s mm args meth c cc RX4 nL ret D cI cZ cO) (h : kHE s H locs D ad cI cZ cO k mo X) (hdg : decode cc pc = .ok (.getfield 32, 3)) (kk : W p l e R s mm args below meth c H locs cells slots Q (F0 mm (pc + 3) ls (.ref (ad (B + 14)) :: rest))) : W p l e R s mm args below meth c H locs cells slots Q (F0 mm pc ls (.ref (ad B) :: rest)) :=
  kr_get V h (kq_B hB) (kE_w0 hB) (C := RX4) (T := TX4) (N := 6) rfl kX4 4 (by decide) kf_X4_32 rfl hdg kk
theorem kg_X4_36 {B : Nat} (hB : kB B) (V : kV p s mm args meth c cc RX4 nL ret D cI cZ cO) (h : kHE s H locs D ad cI cZ cO k mo X) (hdg : decode cc pc = .ok (.getfield 36, 3)) (kk : W p l e R s mm args below meth c H locs cells slots Q (F0 mm (pc + 3) ls (.int (k B 0) :: rest))) : W p l e R s mm args below meth c H locs cells slots Q (F0 mm pc ls (.ref (ad B) :: rest)) :=
  kr_get V h (kq_B hB) (kE_w0 hB) (C := RX4) (T := TX4) (N := 6) rfl kX4 5 (by decide) kf_X4_36 rfl hdg kk
theorem kp_X4_36 {B : Nat} (hB : kB B) (V : kV p s mm args meth c cc RX4 nL ret D cI cZ cO) (h : kHE s H locs D ad cI cZ cO k mo X) {x : Int32} (hdg : decode cc pc = .ok (.putfield 36, 3)) (kk : ∀ (H1 : Heap) (locs1 : List Loc), kHE s H1 locs1 D ad cI cZ cO (kst k B (upd (k B) 0 x)) mo X → W p l e R s mm args below meth c H1 locs1 cells slots Q (F0 mm (pc + 3) ls rest)) : W p l e R s mm args below meth c H locs cells slots Q (F0 mm pc ls (.int x :: .ref (ad B) :: rest)) :=
  kr_put V h (kq_B hB) (kE_w0 hB) (C := RX4) (T := TX4) (N := 6) rfl kX4 tyX4 tyX4_ok nmX4 5 (by decide) kf_X4_36 rfl (by decide +kernel) (by show 5 < 6; decide) (by rw [kE_w0 hB, kst_eq]; simp [upd]) (fun a ha => kst_o ha) hdg kk
theorem kg_X5_44 {B : Nat} (hB : kB B) (V : kV p s mm args meth c cc RX5 nL ret D cI cZ cO) (h : kHE s H locs D ad cI cZ cO k mo X) (hdg : decode cc pc = .ok (.getfield 44, 3)) (kk : W p l e R s mm args below meth c H locs cells slots Q (F0 mm (pc + 3) ls (.int (k B 0) :: rest))) : W p l e R s mm args below meth c H locs cells slots Q (F0 mm pc ls (.ref (ad B) :: rest)) :=
  kr_get V h (kq_B hB) (kE_w0 hB) (C := RX4) (T := TX4) (N := 6) rfl kX4 5 (by decide) kf_X5_44 rfl hdg kk
theorem kg_X5_10 (V : kV p s mm args meth c cc RX5 nL ret D cI cZ cO) (h : kHE s H locs D ad cI cZ cO k mo X) (hdg : decode cc pc = .ok (.getfield 10, 3)) (kk : W p l e R s mm args below meth c H locs cells slots Q (F0 mm (pc + 3) ls (.ref (ad 1) :: rest))) : W p l e R s mm args below meth c H locs cells slots Q (F0 mm pc ls (.ref (ad 0) :: rest)) :=
  kr_get V h (by decide) kE_0 (C := RX5) (T := TX5) (N := 3) rfl kX5 0 (by decide) kf_X5_10 rfl hdg kk
theorem kg_X5_21 (V : kV p s mm args meth c cc RX5 nL ret D cI cZ cO) (h : kHE s H locs D ad cI cZ cO k mo X) (hdg : decode cc pc = .ok (.getfield 21, 3)) (kk : W p l e R s mm args below meth c H locs cells slots Q (F0 mm (pc + 3) ls (.ref (ad 15) :: rest))) : W p l e R s mm args below meth c H locs cells slots Q (F0 mm pc ls (.ref (ad 0) :: rest)) :=
  kr_get V h (by decide) kE_0 (C := RX5) (T := TX5) (N := 3) rfl kX5 1 (by decide) kf_X5_21 rfl hdg kk
theorem kg_X5_25 (V : kV p s mm args meth c cc RX5 nL ret D cI cZ cO) (h : kHE s H locs D ad cI cZ cO k mo X) (hdg : decode cc pc = .ok (.getfield 25, 3)) (kk : W p l e R s mm args below meth c H locs cells slots Q (F0 mm (pc + 3) ls (.ref (ad 30) :: rest))) : W p l e R s mm args below meth c H locs cells slots Q (F0 mm pc ls (.ref (ad 0) :: rest)) :=
  kr_get V h (by decide) kE_0 (C := RX5) (T := TX5) (N := 3) rfl kX5 2 (by decide) kf_X5_25 rfl hdg kk
theorem kg_X6_31 (V : kV p s mm args meth c cc RX6 nL ret D cI cZ cO) (h : kHE s H locs D ad cI cZ cO k mo X) (hdg : decode cc pc = .ok (.getfield 31, 3)) (kk : W p l e R s mm args below meth c H locs cells slots Q (F0 mm (pc + 3) ls (.int (mo 7 0) :: rest))) : W p l e R s mm args below meth c H locs cells slots Q (F0 mm pc ls (.ref (ad 7) :: rest)) :=
  kr_get V h (by decide) kE_7 (C := RX6) (T := TX6) (N := 10) rfl kX6 0 (by decide) kf_X6_31 rfl hdg kk
theorem kp_X6_31 (V : kV p s mm args meth c cc RX6 nL ret D cI cZ cO) (h : kHE s H locs D ad cI cZ cO k mo X) {x : Int32} (hdg : decode cc pc = .ok (.putfield 31, 3)) (kk : ∀ (H1 : Heap) (locs1 : List Loc), kHE s H1 locs1 D ad cI cZ cO k (kst mo 7 (upd (mo 7) 0 x)) X → W p l e R s mm args below meth c H1 locs1 cells slots Q (F0 mm (pc + 3) ls rest)) : W p l e R s mm args below meth c H locs cells slots Q (F0 mm pc ls (.int x :: .ref (ad 7) :: rest)) :=
  kr_put V h (by decide) kE_7 (C := RX6) (T := TX6) (N := 10) rfl kX6 tyX6 tyX6_ok nmX6 0 (by decide) kf_X6_31 rfl (by decide +kernel) (by show 0 < 10; decide) (by rw [kE_7, kst_eq]; simp [upd]) (fun a ha => kst_oM ha) hdg kk
theorem kg_X6_35 (V : kV p s mm args meth c cc RX6 nL ret D cI cZ cO) (h : kHE s H locs D ad cI cZ cO k mo X) (hdg : decode cc pc = .ok (.getfield 35, 3)) (kk : W p l e R s mm args below meth c H locs cells slots Q (F0 mm (pc + 3) ls (.int (mo 7 1) :: rest))) : W p l e R s mm args below meth c H locs cells slots Q (F0 mm pc ls (.ref (ad 7) :: rest)) :=
  kr_get V h (by decide) kE_7 (C := RX6) (T := TX6) (N := 10) rfl kX6 1 (by decide) kf_X6_35 rfl hdg kk
theorem kp_X6_35 (V : kV p s mm args meth c cc RX6 nL ret D cI cZ cO) (h : kHE s H locs D ad cI cZ cO k mo X) {x : Int32} (hdg : decode cc pc = .ok (.putfield 35, 3)) (kk : ∀ (H1 : Heap) (locs1 : List Loc), kHE s H1 locs1 D ad cI cZ cO k (kst mo 7 (upd (mo 7) 1 x)) X → W p l e R s mm args below meth c H1 locs1 cells slots Q (F0 mm (pc + 3) ls rest)) : W p l e R s mm args below meth c H locs cells slots Q (F0 mm pc ls (.int x :: .ref (ad 7) :: rest)) :=
  kr_put V h (by decide) kE_7 (C := RX6) (T := TX6) (N := 10) rfl kX6 tyX6 tyX6_ok nmX6 1 (by decide) kf_X6_35 rfl (by decide +kernel) (by show 1 < 10; decide) (by rw [kE_7, kst_eq]; simp [upd]) (fun a ha => kst_oM ha) hdg kk
theorem kg_X6_42 (V : kV p s mm args meth c cc RX6 nL ret D cI cZ cO) (h : kHE s H locs D ad cI cZ cO k mo X) (hdg : decode cc pc = .ok (.getfield 42, 3)) (kk : W p l e R s mm args below meth c H locs cells slots Q (F0 mm (pc + 3) ls (.int (mo 7 2) :: rest))) : W p l e R s mm args below meth c H locs cells slots Q (F0 mm pc ls (.ref (ad 7) :: rest)) :=
  kr_get V h (by decide) kE_7 (C := RX6) (T := TX6) (N := 10) rfl kX6 2 (by decide) kf_X6_42 rfl hdg kk
theorem kp_X6_42 (V : kV p s mm args meth c cc RX6 nL ret D cI cZ cO) (h : kHE s H locs D ad cI cZ cO k mo X) {x : Int32} (hdg : decode cc pc = .ok (.putfield 42, 3)) (kk : ∀ (H1 : Heap) (locs1 : List Loc), kHE s H1 locs1 D ad cI cZ cO k (kst mo 7 (upd (mo 7) 2 x)) X → W p l e R s mm args below meth c H1 locs1 cells slots Q (F0 mm (pc + 3) ls rest)) : W p l e R s mm args below meth c H locs cells slots Q (F0 mm pc ls (.int x :: .ref (ad 7) :: rest)) :=
  kr_put V h (by decide) kE_7 (C := RX6) (T := TX6) (N := 10) rfl kX6 tyX6 tyX6_ok nmX6 2 (by decide) kf_X6_42 rfl (by decide +kernel) (by show 2 < 10; decide) (by rw [kE_7, kst_eq]; simp [upd]) (fun a ha => kst_oM ha) hdg kk
theorem kg_X6_9 (V : kV p s mm args meth c cc RX6 nL ret D cI cZ cO) (h : kHE s H locs D ad cI cZ cO k mo X) (hdg : decode cc pc = .ok (.getfield 9, 3)) (kk : W p l e R s mm args below meth c H locs cells slots Q (F0 mm (pc + 3) ls (.ref (ad 8) :: rest))) : W p l e R s mm args below meth c H locs cells slots Q (F0 mm pc ls (.ref (ad 7) :: rest)) :=
  kr_get V h (by decide) kE_7 (C := RX6) (T := TX6) (N := 10) rfl kX6 3 (by decide) kf_X6_9 rfl hdg kk
theorem kg_X6_13 (V : kV p s mm args meth c cc RX6 nL ret D cI cZ cO) (h : kHE s H locs D ad cI cZ cO k mo X) (hdg : decode cc pc = .ok (.getfield 13, 3)) (kk : W p l e R s mm args below meth c H locs cells slots Q (F0 mm (pc + 3) ls (.ref (ad 9) :: rest))) : W p l e R s mm args below meth c H locs cells slots Q (F0 mm pc ls (.ref (ad 7) :: rest)) :=
  kr_get V h (by decide) kE_7 (C := RX6) (T := TX6) (N := 10) rfl kX6 4 (by decide) kf_X6_13 rfl hdg kk
theorem kg_X6_16 (V : kV p s mm args meth c cc RX6 nL ret D cI cZ cO) (h : kHE s H locs D ad cI cZ cO k mo X) (hdg : decode cc pc = .ok (.getfield 16, 3)) (kk : W p l e R s mm args below meth c H locs cells slots Q (F0 mm (pc + 3) ls (.ref (ad 10) :: rest))) : W p l e R s mm args below meth c H locs cells slots Q (F0 mm pc ls (.ref (ad 7) :: rest)) :=
  kr_get V h (by decide) kE_7 (C := RX6) (T := TX6) (N := 10) rfl kX6 5 (by decide) kf_X6_16 rfl hdg kk
theorem kg_X6_19 (V : kV p s mm args meth c cc RX6 nL ret D cI cZ cO) (h : kHE s H locs D ad cI cZ cO k mo X) (hdg : decode cc pc = .ok (.getfield 19, 3)) (kk : W p l e R s mm args below meth c H locs cells slots Q (F0 mm (pc + 3) ls (.ref (ad 11) :: rest))) : W p l e R s mm args below meth c H locs cells slots Q (F0 mm pc ls (.ref (ad 7) :: rest)) :=
  kr_get V h (by decide) kE_7 (C := RX6) (T := TX6) (N := 10) rfl kX6 6 (by decide) kf_X6_19 rfl hdg kk
theorem kg_X6_22 (V : kV p s mm args meth c cc RX6 nL ret D cI cZ cO) (h : kHE s H locs D ad cI cZ cO k mo X) (hdg : decode cc pc = .ok (.getfield 22, 3)) (kk : W p l e R s mm args below meth c H locs cells slots Q (F0 mm (pc + 3) ls (.ref (ad 12) :: rest))) : W p l e R s mm args below meth c H locs cells slots Q (F0 mm pc ls (.ref (ad 7) :: rest)) :=
  kr_get V h (by decide) kE_7 (C := RX6) (T := TX6) (N := 10) rfl kX6 7 (by decide) kf_X6_22 rfl hdg kk
theorem kg_X6_25 (V : kV p s mm args meth c cc RX6 nL ret D cI cZ cO) (h : kHE s H locs D ad cI cZ cO k mo X) (hdg : decode cc pc = .ok (.getfield 25, 3)) (kk : W p l e R s mm args below meth c H locs cells slots Q (F0 mm (pc + 3) ls (.ref (ad 13) :: rest))) : W p l e R s mm args below meth c H locs cells slots Q (F0 mm pc ls (.ref (ad 7) :: rest)) :=
  kr_get V h (by decide) kE_7 (C := RX6) (T := TX6) (N := 10) rfl kX6 8 (by decide) kf_X6_25 rfl hdg kk
theorem kg_X6_28 (V : kV p s mm args meth c cc RX6 nL ret D cI cZ cO) (h : kHE s H locs D ad cI cZ cO k mo X) (hdg : decode cc pc = .ok (.getfield 28, 3)) (kk : W p l e R s mm args below meth c H locs cells slots Q (F0 mm (pc + 3) ls (.ref (ad 14) :: rest))) : W p l e R s mm args below meth c H locs cells slots Q (F0 mm pc ls (.ref (ad 7) :: rest)) :=
  kr_get V h (by decide) kE_7 (C := RX6) (T := TX6) (N := 10) rfl kX6 9 (by decide) kf_X6_28 rfl hdg kk
end KP
theorem kYX0_knows : kY RX0 yX0_knows cX0_knows 2 (some .boolean) 1 := ⟨kinst_yX0_knows, ksel_yX0_knows, kz_X0, kd_yX0_knows, by decide +kernel⟩
theorem kYX0_isFull : kY RX0 yX0_isFull cX0_isFull 1 (some .boolean) 0 := ⟨kinst_yX0_isFull, ksel_yX0_isFull, kz_X0, kd_yX0_isFull, by decide +kernel⟩
theorem kYX0_add : kY RX0 yX0_add cX0_add 8 (some .int) 4 := ⟨kinst_yX0_add, ksel_yX0_add, kz_X0, kd_yX0_add, by decide +kernel⟩
theorem kYX0_stepsThroughParents : kY RX0 yX0_stepsThroughParents cX0_stepsThroughParents 6 (some .int) 3 := ⟨kinst_yX0_stepsThroughParents, ksel_yX0_stepsThroughParents, kz_X0, kd_yX0_stepsThroughParents, by decide +kernel⟩
theorem kYX0_stepsBetween : kY RX0 yX0_stepsBetween cX0_stepsBetween 3 (some .int) 2 := ⟨kinst_yX0_stepsBetween, ksel_yX0_stepsBetween, kz_X0, kd_yX0_stepsBetween, by decide +kernel⟩
theorem kYX0_isBefore : kY RX0 yX0_isBefore cX0_isBefore 3 (some .boolean) 2 := ⟨kinst_yX0_isBefore, ksel_yX0_isBefore, kz_X0, kd_yX0_isBefore, by decide +kernel⟩
theorem kYX0_isAhead : kY RX0 yX0_isAhead cX0_isAhead 4 (some .boolean) 3 := ⟨kinst_yX0_isAhead, ksel_yX0_isAhead, kz_X0, kd_yX0_isAhead, by decide +kernel⟩
theorem kYX0_childrenOf : kY RX0 yX0_childrenOf cX0_childrenOf 4 (some .int) 1 := ⟨kinst_yX0_childrenOf, ksel_yX0_childrenOf, kz_X0, kd_yX0_childrenOf, by decide +kernel⟩
theorem kYX1_knows : kY RX1 yX1_knows cX1_knows 2 (some .boolean) 1 := ⟨kinst_yX1_knows, ksel_yX1_knows, kz_X1, kd_yX1_knows, by decide +kernel⟩
theorem kYX1_isFull : kY RX1 yX1_isFull cX1_isFull 1 (some .boolean) 0 := ⟨kinst_yX1_isFull, ksel_yX1_isFull, kz_X1, kd_yX1_isFull, by decide +kernel⟩
theorem kYX1_add : kY RX1 yX1_add cX1_add 5 (some .int) 3 := ⟨kinst_yX1_add, ksel_yX1_add, kz_X1, kd_yX1_add, by decide +kernel⟩
theorem kYX1_handTo : kY RX1 yX1_handTo cX1_handTo 3 none 2 := ⟨kinst_yX1_handTo, ksel_yX1_handTo, kz_X1, kd_yX1_handTo, by decide +kernel⟩
theorem kYX1_rulerOf : kY RX1 yX1_rulerOf cX1_rulerOf 2 (some .int) 1 := ⟨kinst_yX1_rulerOf, ksel_yX1_rulerOf, kz_X1, kd_yX1_rulerOf, by decide +kernel⟩
theorem kYX1_numberUnder : kY RX1 yX1_numberUnder cX1_numberUnder 4 (some .int) 1 := ⟨kinst_yX1_numberUnder, ksel_yX1_numberUnder, kz_X1, kd_yX1_numberUnder, by decide +kernel⟩
theorem kYX1_worthUnder : kY RX1 yX1_worthUnder cX1_worthUnder 4 (some .int) 1 := ⟨kinst_yX1_worthUnder, ksel_yX1_worthUnder, kz_X1, kd_yX1_worthUnder, by decide +kernel⟩
theorem kYX1_takeRulers : kY RX1 yX1_takeRulers cX1_takeRulers 2 none 1 := ⟨kinst_yX1_takeRulers, ksel_yX1_takeRulers, kz_X1, kd_yX1_takeRulers, by decide +kernel⟩
theorem kYX2_clear : kY RX2 yX2_clear cX2_clear 1 none 0 := ⟨kinst_yX2_clear, ksel_yX2_clear, kz_X2, kd_yX2_clear, by decide +kernel⟩
theorem kYX2_firstOf : kY RX2 yX2_firstOf cX2_firstOf 2 (some .int) 1 := ⟨kinst_yX2_firstOf, ksel_yX2_firstOf, kz_X2, kd_yX2_firstOf, by decide +kernel⟩
theorem kYX2_tell : kY RX2 yX2_tell cX2_tell 6 none 5 := ⟨kinst_yX2_tell, ksel_yX2_tell, kz_X2, kd_yX2_tell, by decide +kernel⟩
theorem kYX3_spouseOf : kY RX3 yX3_spouseOf cX3_spouseOf 2 (some .int) 1 := ⟨kinst_yX3_spouseOf, ksel_yX3_spouseOf, kz_X3, kd_yX3_spouseOf, by decide +kernel⟩
theorem kYX3_bind : kY RX3 yX3_bind cX3_bind 3 none 2 := ⟨kinst_yX3_bind, ksel_yX3_bind, kz_X3, kd_yX3_bind, by decide +kernel⟩
theorem kYX3_part : kY RX3 yX3_part cX3_part 3 none 1 := ⟨kinst_yX3_part, ksel_yX3_part, kz_X3, kd_yX3_part, by decide +kernel⟩
theorem kYX3_couples : kY RX3 yX3_couples cX3_couples 3 (some .int) 0 := ⟨kinst_yX3_couples, ksel_yX3_couples, kz_X3, kd_yX3_couples, by decide +kernel⟩
theorem kYX4_startFrom : kY RX4 yX4_startFrom cX4_startFrom 2 none 1 := ⟨kinst_yX4_startFrom, ksel_yX4_startFrom, kz_X4, kd_yX4_startFrom, by decide +kernel⟩
theorem kYX4_lives : kY RX4 yX4_lives cX4_lives 2 (some .boolean) 1 := ⟨kinst_yX4_lives, ksel_yX4_lives, kz_X4, kd_yX4_lives, by decide +kernel⟩
theorem kYX4_age : kY RX4 yX4_age cX4_age 2 (some .int) 1 := ⟨kinst_yX4_age, ksel_yX4_age, kz_X4, kd_yX4_age, by decide +kernel⟩
theorem kYX4_isFree : kY RX4 yX4_isFree cX4_isFree 2 (some .boolean) 1 := ⟨kinst_yX4_isFree, ksel_yX4_isFree, kz_X4, kd_yX4_isFree, by decide +kernel⟩
theorem kYX4_mayMarry : kY RX4 yX4_mayMarry cX4_mayMarry 4 (some .boolean) 2 := ⟨kinst_yX4_mayMarry, ksel_yX4_mayMarry, kz_X4, kd_yX4_mayMarry, by decide +kernel⟩
theorem kYX4_wed : kY RX4 yX4_wed cX4_wed 5 none 3 := ⟨kinst_yX4_wed, ksel_yX4_wed, kz_X4, kd_yX4_wed, by decide +kernel⟩
theorem kYX4_separate : kY RX4 yX4_separate cX4_separate 6 (some .int) 1 := ⟨kinst_yX4_separate, ksel_yX4_separate, kz_X4, kd_yX4_separate, by decide +kernel⟩
theorem kYX4_bury : kY RX4 yX4_bury cX4_bury 4 (some .int) 1 := ⟨kinst_yX4_bury, ksel_yX4_bury, kz_X4, kd_yX4_bury, by decide +kernel⟩
theorem kYX4_letPass : kY RX4 yX4_letPass cX4_letPass 5 (some .int) 1 := ⟨kinst_yX4_letPass, ksel_yX4_letPass, kz_X4, kd_yX4_letPass, by decide +kernel⟩
theorem kYX4_heirOf : kY RX4 yX4_heirOf cX4_heirOf 5 (some .int) 2 := ⟨kinst_yX4_heirOf, ksel_yX4_heirOf, kz_X4, kd_yX4_heirOf, by decide +kernel⟩
theorem kYX4_eldestOfKin : kY RX4 yX4_eldestOfKin cX4_eldestOfKin 4 (some .int) 1 := ⟨kinst_yX4_eldestOfKin, ksel_yX4_eldestOfKin, kz_X4, kd_yX4_eldestOfKin, by decide +kernel⟩
theorem kYX4_regentOf : kY RX4 yX4_regentOf cX4_regentOf 2 (some .int) 1 := ⟨kinst_yX4_regentOf, ksel_yX4_regentOf, kz_X4, kd_yX4_regentOf, by decide +kernel⟩
theorem kYX4_nearestGrown : kY RX4 yX4_nearestGrown cX4_nearestGrown 6 (some .int) 1 := ⟨kinst_yX4_nearestGrown, ksel_yX4_nearestGrown, kz_X4, kd_yX4_nearestGrown, by decide +kernel⟩
theorem kYX4_personFact : kY RX4 yX4_personFact cX4_personFact 3 (some .int) 2 := ⟨kinst_yX4_personFact, ksel_yX4_personFact, kz_X4, kd_yX4_personFact, by decide +kernel⟩
theorem kYX4_landFact : kY RX4 yX4_landFact cX4_landFact 4 (some .int) 2 := ⟨kinst_yX4_landFact, ksel_yX4_landFact, kz_X4, kd_yX4_landFact, by decide +kernel⟩
theorem kYX4_countFact : kY RX4 yX4_countFact cX4_countFact 2 (some .int) 1 := ⟨kinst_yX4_countFact, ksel_yX4_countFact, kz_X4, kd_yX4_countFact, by decide +kernel⟩
theorem kYX4_living : kY RX4 yX4_living cX4_living 3 (some .int) 0 := ⟨kinst_yX4_living, ksel_yX4_living, kz_X4, kd_yX4_living, by decide +kernel⟩
theorem kYX4_rulers : kY RX4 yX4_rulers cX4_rulers 4 (some .int) 1 := ⟨kinst_yX4_rulers, ksel_yX4_rulers, kz_X4, kd_yX4_rulers, by decide +kernel⟩
theorem kYX5_come : kY RX5 yX5_come cX5_come 3 (some .int) 2 := ⟨kinst_yX5_come, ksel_yX5_come, kz_X5, kd_yX5_come, by decide +kernel⟩
theorem kYX5_bear : kY RX5 yX5_bear cX5_bear 4 (some .int) 2 := ⟨kinst_yX5_bear, ksel_yX5_bear, kz_X5, kd_yX5_bear, by decide +kernel⟩
theorem kYX5_found : kY RX5 yX5_found cX5_found 4 (some .int) 3 := ⟨kinst_yX5_found, ksel_yX5_found, kz_X5, kd_yX5_found, by decide +kernel⟩
theorem kYX5_setLaw : kY RX5 yX5_setLaw cX5_setLaw 4 (some .int) 2 := ⟨kinst_yX5_setLaw, ksel_yX5_setLaw, kz_X5, kd_yX5_setLaw, by decide +kernel⟩
theorem kYX5_marry : kY RX5 yX5_marry cX5_marry 5 (some .int) 3 := ⟨kinst_yX5_marry, ksel_yX5_marry, kz_X5, kd_yX5_marry, by decide +kernel⟩
theorem kYX5_annul : kY RX5 yX5_annul cX5_annul 2 (some .int) 1 := ⟨kinst_yX5_annul, ksel_yX5_annul, kz_X5, kd_yX5_annul, by decide +kernel⟩
theorem kYX5_die : kY RX5 yX5_die cX5_die 2 (some .int) 1 := ⟨kinst_yX5_die, ksel_yX5_die, kz_X5, kd_yX5_die, by decide +kernel⟩
theorem kYX5_person : kY RX5 yX5_person cX5_person 3 (some .int) 2 := ⟨kinst_yX5_person, ksel_yX5_person, kz_X5, kd_yX5_person, by decide +kernel⟩
theorem kYX5_land : kY RX5 yX5_land cX5_land 3 (some .int) 2 := ⟨kinst_yX5_land, ksel_yX5_land, kz_X5, kd_yX5_land, by decide +kernel⟩
theorem kYX5_ruled : kY RX5 yX5_ruled cX5_ruled 3 (some .int) 2 := ⟨kinst_yX5_ruled, ksel_yX5_ruled, kz_X5, kd_yX5_ruled, by decide +kernel⟩
theorem kYX5_related : kY RX5 yX5_related cX5_related 3 (some .int) 2 := ⟨kinst_yX5_related, ksel_yX5_related, kz_X5, kd_yX5_related, by decide +kernel⟩
theorem kYX5_count : kY RX5 yX5_count cX5_count 2 (some .int) 1 := ⟨kinst_yX5_count, ksel_yX5_count, kz_X5, kd_yX5_count, by decide +kernel⟩
theorem kYX5_pass : kY RX5 yX5_pass cX5_pass 2 (some .int) 1 := ⟨kinst_yX5_pass, ksel_yX5_pass, kz_X5, kd_yX5_pass, by decide +kernel⟩
theorem kYX5_rules : kY RX5 yX5_rules cX5_rules 3 (some .int) 1 := ⟨kinst_yX5_rules, ksel_yX5_rules, kz_X5, kd_yX5_rules, by decide +kernel⟩
theorem kYX5_foresee : kY RX5 yX5_foresee cX5_foresee 3 (some .int) 2 := ⟨kinst_yX5_foresee, ksel_yX5_foresee, kz_X5, kd_yX5_foresee, by decide +kernel⟩
theorem kYX5_best : kY RX5 yX5_best cX5_best 6 (some .int) 1 := ⟨kinst_yX5_best, ksel_yX5_best, kz_X5, kd_yX5_best, by decide +kernel⟩
theorem kYX5_mean : kY RX5 yX5_mean cX5_mean 4 (some .double) 0 := ⟨kinst_yX5_mean, ksel_yX5_mean, kz_X5, kd_yX5_mean, by decide +kernel⟩
theorem kYX5_digest : kY RX5 yX5_digest cX5_digest 5 (some .long) 0 := ⟨kinst_yX5_digest, ksel_yX5_digest, kz_X5, kd_yX5_digest, by decide +kernel⟩
theorem kYX5_digestedLand : kY RX5 yX5_digestedLand cX5_digestedLand 7 (some .long) 2 := ⟨kinst_yX5_digestedLand, ksel_yX5_digestedLand, kz_X5, kd_yX5_digestedLand, by decide +kernel⟩
theorem kYX5_digested : kYs yX5_digested cX5_digested 4 (some .long) 2 := ⟨kstatic_yX5_digested, kz_X5, kd_yX5_digested, by decide +kernel⟩
theorem kYX5_needPerson : kY RX5 yX5_needPerson cX5_needPerson 2 none 1 := ⟨kinst_yX5_needPerson, ksel_yX5_needPerson, kz_X5, kd_yX5_needPerson, by decide +kernel⟩
theorem kYX5_needLand : kY RX5 yX5_needLand cX5_needLand 2 none 1 := ⟨kinst_yX5_needLand, ksel_yX5_needLand, kz_X5, kd_yX5_needLand, by decide +kernel⟩
theorem kYX5_needBelow : kYs yX5_needBelow cX5_needBelow 2 none 2 := ⟨kstatic_yX5_needBelow, kz_X5, kd_yX5_needBelow, by decide +kernel⟩
theorem kYX5_needLaw : kYs yX5_needLaw cX5_needLaw 1 none 1 := ⟨kstatic_yX5_needLaw, kz_X5, kd_yX5_needLaw, by decide +kernel⟩
theorem kYX5_needYears : kYs yX5_needYears cX5_needYears 1 none 1 := ⟨kstatic_yX5_needYears, kz_X5, kd_yX5_needYears, by decide +kernel⟩
theorem kYX6_thrown : kY RX6 yX6_thrown cX6_thrown 1 (some .int) 0 := ⟨kinst_yX6_thrown, ksel_yX6_thrown, kz_X6, kd_yX6_thrown, by decide +kernel⟩
theorem kYX6_fail : kY RX6 yX6_fail cX6_fail 2 (some .int) 1 := ⟨kinst_yX6_fail, ksel_yX6_fail, kz_X6, kd_yX6_fail, by decide +kernel⟩
theorem kYX6_isIn : kYs yX6_isIn cX6_isIn 3 (some .boolean) 3 := ⟨kstatic_yX6_isIn, kz_X6, kd_yX6_isIn, by decide +kernel⟩
theorem kYX6_isPerson : kY RX6 yX6_isPerson cX6_isPerson 2 (some .boolean) 1 := ⟨kinst_yX6_isPerson, ksel_yX6_isPerson, kz_X6, kd_yX6_isPerson, by decide +kernel⟩
theorem kYX6_isLand : kY RX6 yX6_isLand cX6_isLand 2 (some .boolean) 1 := ⟨kinst_yX6_isLand, ksel_yX6_isLand, kz_X6, kd_yX6_isLand, by decide +kernel⟩
theorem kYX6_pe : kY RX6 yX6_pe cX6_pe 3 (some .int) 2 := ⟨kinst_yX6_pe, ksel_yX6_pe, kz_X6, kd_yX6_pe, by decide +kernel⟩
theorem kYX6_set : kY RX6 yX6_set cX6_set 4 none 3 := ⟨kinst_yX6_set, ksel_yX6_set, kz_X6, kd_yX6_set, by decide +kernel⟩
theorem kYX6_la : kY RX6 yX6_la cX6_la 3 (some .int) 2 := ⟨kinst_yX6_la, ksel_yX6_la, kz_X6, kd_yX6_la, by decide +kernel⟩
theorem kYX6_lives : kY RX6 yX6_lives cX6_lives 2 (some .boolean) 1 := ⟨kinst_yX6_lives, ksel_yX6_lives, kz_X6, kd_yX6_lives, by decide +kernel⟩
theorem kYX6_age : kY RX6 yX6_age cX6_age 2 (some .int) 1 := ⟨kinst_yX6_age, ksel_yX6_age, kz_X6, kd_yX6_age, by decide +kernel⟩
theorem kYX6_person : kY RX6 yX6_person cX6_person 6 (some .int) 4 := ⟨kinst_yX6_person, ksel_yX6_person, kz_X6, kd_yX6_person, by decide +kernel⟩
theorem kYX6_come : kY RX6 yX6_come cX6_come 3 (some .int) 2 := ⟨kinst_yX6_come, ksel_yX6_come, kz_X6, kd_yX6_come, by decide +kernel⟩
theorem kYX6_bear : kY RX6 yX6_bear cX6_bear 3 (some .int) 2 := ⟨kinst_yX6_bear, ksel_yX6_bear, kz_X6, kd_yX6_bear, by decide +kernel⟩
theorem kYX6_rule : kY RX6 yX6_rule cX6_rule 3 none 2 := ⟨kinst_yX6_rule, ksel_yX6_rule, kz_X6, kd_yX6_rule, by decide +kernel⟩
theorem kYX6_found : kY RX6 yX6_found cX6_found 5 (some .int) 3 := ⟨kinst_yX6_found, ksel_yX6_found, kz_X6, kd_yX6_found, by decide +kernel⟩
theorem kYX6_setLaw : kY RX6 yX6_setLaw cX6_setLaw 4 (some .int) 2 := ⟨kinst_yX6_setLaw, ksel_yX6_setLaw, kz_X6, kd_yX6_setLaw, by decide +kernel⟩
theorem kYX6_climb : kY RX6 yX6_climb cX6_climb 4 none 2 := ⟨kinst_yX6_climb, ksel_yX6_climb, kz_X6, kd_yX6_climb, by decide +kernel⟩
theorem kYX6_steps : kY RX6 yX6_steps cX6_steps 5 (some .int) 2 := ⟨kinst_yX6_steps, ksel_yX6_steps, kz_X6, kd_yX6_steps, by decide +kernel⟩
theorem kYX6_isBefore : kY RX6 yX6_isBefore cX6_isBefore 3 (some .boolean) 2 := ⟨kinst_yX6_isBefore, ksel_yX6_isBefore, kz_X6, kd_yX6_isBefore, by decide +kernel⟩
theorem kYX6_isAhead : kY RX6 yX6_isAhead cX6_isAhead 4 (some .boolean) 3 := ⟨kinst_yX6_isAhead, ksel_yX6_isAhead, kz_X6, kd_yX6_isAhead, by decide +kernel⟩
theorem kYX6_isChild : kY RX6 yX6_isChild cX6_isChild 3 (some .boolean) 2 := ⟨kinst_yX6_isChild, ksel_yX6_isChild, kz_X6, kd_yX6_isChild, by decide +kernel⟩
theorem kYX6_nextChild : kY RX6 yX6_nextChild cX6_nextChild 6 (some .int) 3 := ⟨kinst_yX6_nextChild, ksel_yX6_nextChild, kz_X6, kd_yX6_nextChild, by decide +kernel⟩
theorem kYX6_first : kY RX6 yX6_first cX6_first 6 (some .int) 3 := ⟨kinst_yX6_first, ksel_yX6_first, kz_X6, kd_yX6_first, by decide +kernel⟩
theorem kYX6_oldest : kY RX6 yX6_oldest cX6_oldest 4 (some .int) 1 := ⟨kinst_yX6_oldest, ksel_yX6_oldest, kz_X6, kd_yX6_oldest, by decide +kernel⟩
theorem kYX6_heir : kY RX6 yX6_heir cX6_heir 4 (some .int) 2 := ⟨kinst_yX6_heir, ksel_yX6_heir, kz_X6, kd_yX6_heir, by decide +kernel⟩
theorem kYX6_regent : kY RX6 yX6_regent cX6_regent 7 (some .int) 1 := ⟨kinst_yX6_regent, ksel_yX6_regent, kz_X6, kd_yX6_regent, by decide +kernel⟩
theorem kYX6_worthOf : kY RX6 yX6_worthOf cX6_worthOf 4 (some .int) 1 := ⟨kinst_yX6_worthOf, ksel_yX6_worthOf, kz_X6, kd_yX6_worthOf, by decide +kernel⟩
theorem kYX6_isFree : kY RX6 yX6_isFree cX6_isFree 2 (some .boolean) 1 := ⟨kinst_yX6_isFree, ksel_yX6_isFree, kz_X6, kd_yX6_isFree, by decide +kernel⟩
theorem kYX6_canMarry : kY RX6 yX6_canMarry cX6_canMarry 3 (some .boolean) 2 := ⟨kinst_yX6_canMarry, ksel_yX6_canMarry, kz_X6, kd_yX6_canMarry, by decide +kernel⟩
theorem kYX6_marry : kY RX6 yX6_marry cX6_marry 5 (some .int) 3 := ⟨kinst_yX6_marry, ksel_yX6_marry, kz_X6, kd_yX6_marry, by decide +kernel⟩
theorem kYX6_part : kY RX6 yX6_part cX6_part 7 none 1 := ⟨kinst_yX6_part, ksel_yX6_part, kz_X6, kd_yX6_part, by decide +kernel⟩
theorem kYX6_annul : kY RX6 yX6_annul cX6_annul 5 (some .int) 1 := ⟨kinst_yX6_annul, ksel_yX6_annul, kz_X6, kd_yX6_annul, by decide +kernel⟩
theorem kYX6_dies : kY RX6 yX6_dies cX6_dies 4 (some .int) 1 := ⟨kinst_yX6_dies, ksel_yX6_dies, kz_X6, kd_yX6_dies, by decide +kernel⟩
theorem kYX6_die : kY RX6 yX6_die cX6_die 2 (some .int) 1 := ⟨kinst_yX6_die, ksel_yX6_die, kz_X6, kd_yX6_die, by decide +kernel⟩
theorem kYX6_personTold : kY RX6 yX6_personTold cX6_personTold 5 (some .int) 2 := ⟨kinst_yX6_personTold, ksel_yX6_personTold, kz_X6, kd_yX6_personTold, by decide +kernel⟩
theorem kYX6_person_ : kY RX6 yX6_person_ cX6_person_ 3 (some .int) 2 := ⟨kinst_yX6_person_, ksel_yX6_person_, kz_X6, kd_yX6_person_, by decide +kernel⟩
theorem kYX6_landTold : kY RX6 yX6_landTold cX6_landTold 4 (some .int) 2 := ⟨kinst_yX6_landTold, ksel_yX6_landTold, kz_X6, kd_yX6_landTold, by decide +kernel⟩
theorem kYX6_land : kY RX6 yX6_land cX6_land 3 (some .int) 2 := ⟨kinst_yX6_land, ksel_yX6_land, kz_X6, kd_yX6_land, by decide +kernel⟩
theorem kYX6_kept : kY RX6 yX6_kept cX6_kept 2 (some .int) 1 := ⟨kinst_yX6_kept, ksel_yX6_kept, kz_X6, kd_yX6_kept, by decide +kernel⟩
theorem kYX6_ruled : kY RX6 yX6_ruled cX6_ruled 3 (some .int) 2 := ⟨kinst_yX6_ruled, ksel_yX6_ruled, kz_X6, kd_yX6_ruled, by decide +kernel⟩
theorem kYX6_related : kY RX6 yX6_related cX6_related 3 (some .int) 2 := ⟨kinst_yX6_related, ksel_yX6_related, kz_X6, kd_yX6_related, by decide +kernel⟩
theorem kYX6_rulesNow : kY RX6 yX6_rulesNow cX6_rulesNow 2 (some .boolean) 1 := ⟨kinst_yX6_rulesNow, ksel_yX6_rulesNow, kz_X6, kd_yX6_rulesNow, by decide +kernel⟩
theorem kYX6_counted : kY RX6 yX6_counted cX6_counted 4 (some .int) 1 := ⟨kinst_yX6_counted, ksel_yX6_counted, kz_X6, kd_yX6_counted, by decide +kernel⟩
theorem kYX6_count : kY RX6 yX6_count cX6_count 2 (some .int) 1 := ⟨kinst_yX6_count, ksel_yX6_count, kz_X6, kd_yX6_count, by decide +kernel⟩
theorem kYX6_yearOn : kY RX6 yX6_yearOn cX6_yearOn 3 (some .int) 0 := ⟨kinst_yX6_yearOn, ksel_yX6_yearOn, kz_X6, kd_yX6_yearOn, by decide +kernel⟩
theorem kYX6_yearsOn : kY RX6 yX6_yearsOn cX6_yearsOn 4 (some .int) 1 := ⟨kinst_yX6_yearsOn, ksel_yX6_yearsOn, kz_X6, kd_yX6_yearsOn, by decide +kernel⟩
theorem kYX6_pass : kY RX6 yX6_pass cX6_pass 2 (some .int) 1 := ⟨kinst_yX6_pass, ksel_yX6_pass, kz_X6, kd_yX6_pass, by decide +kernel⟩
theorem kYX6_kept_ : kY RX6 yX6_kept_ cX6_kept_ 1 (some (.array (.array .int))) 0 := ⟨kinst_yX6_kept_, ksel_yX6_kept_, kz_X6, kd_yX6_kept_, by decide +kernel⟩
theorem kYX6_bringBack : kY RX6 yX6_bringBack cX6_bringBack 4 none 1 := ⟨kinst_yX6_bringBack, ksel_yX6_bringBack, kz_X6, kd_yX6_bringBack, by decide +kernel⟩
theorem kYX6_rules : kY RX6 yX6_rules cX6_rules 4 (some .int) 1 := ⟨kinst_yX6_rules, ksel_yX6_rules, kz_X6, kd_yX6_rules, by decide +kernel⟩
theorem kYX6_foresee : kY RX6 yX6_foresee cX6_foresee 5 (some .int) 2 := ⟨kinst_yX6_foresee, ksel_yX6_foresee, kz_X6, kd_yX6_foresee, by decide +kernel⟩
theorem kYX6_best : kY RX6 yX6_best cX6_best 4 (some .int) 1 := ⟨kinst_yX6_best, ksel_yX6_best, kz_X6, kd_yX6_best, by decide +kernel⟩
theorem kYX6_mean : kY RX6 yX6_mean cX6_mean 3 (some .double) 0 := ⟨kinst_yX6_mean, ksel_yX6_mean, kz_X6, kd_yX6_mean, by decide +kernel⟩
theorem kYX6_digest : kY RX6 yX6_digest cX6_digest 5 (some .long) 0 := ⟨kinst_yX6_digest, ksel_yX6_digest, kz_X6, kd_yX6_digest, by decide +kernel⟩
theorem kYJ7_fill_53178 : kYs yJ7_fill_53178 cJ7_fill_53178 4 none 2 := ⟨kstatic_yJ7_fill_53178, kz_J7, kd_yJ7_fill_53178, by decide +kernel⟩
end

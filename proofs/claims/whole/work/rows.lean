section
-- ===== PART A: goes FIRST, ahead of the names: the tables' words, and 'selects' of the private methods out of them =====
/-- a private method of a class that the tables say can be made, by its rows of tables_1 -/
def lw_okq (q : MethodName × Nat) : Prop := (q.1.cls ≠ "java/lang/invoke/MethodHandle" ∧ q.1.cls ≠ "java/lang/invoke/VarHandle") ∧ Cond.instantiable q.1.cls q.2 ∈ tables_1 ∧ Cond.privateMethod q.1 ∈ tables_1 ∧ Cond.instanceMethod q.1 ∈ tables_1
theorem lw_p0 : lw_okq (⟨"MoonRooms", "fail", "(I)I"⟩, 9) := ⟨⟨by decide +kernel, by decide +kernel⟩, List.mem_of_getElem? (i := 19) (by decide +kernel), List.mem_of_getElem? (i := 253) (by decide +kernel), List.mem_of_getElem? (i := 254) (by decide +kernel)⟩
theorem lw_p1 : lw_okq (⟨"MoonRooms$Law", "workOut", "(III)I"⟩, 3) := ⟨⟨by decide +kernel, by decide +kernel⟩, List.mem_of_getElem? (i := 56) (by decide +kernel), List.mem_of_getElem? (i := 270) (by decide +kernel), List.mem_of_getElem? (i := 271) (by decide +kernel)⟩
theorem lw_p2 : lw_okq (⟨"MoonRooms$Reader", "readLevel", "(II)Z"⟩, 4) := ⟨⟨by decide +kernel, by decide +kernel⟩, List.mem_of_getElem? (i := 142) (by decide +kernel), List.mem_of_getElem? (i := 422) (by decide +kernel), List.mem_of_getElem? (i := 423) (by decide +kernel)⟩
theorem lw_p3 : lw_okq (⟨"MoonRooms$Reader", "readSingle", "(I)Z"⟩, 4) := ⟨⟨by decide +kernel, by decide +kernel⟩, List.mem_of_getElem? (i := 142) (by decide +kernel), List.mem_of_getElem? (i := 426) (by decide +kernel), List.mem_of_getElem? (i := 427) (by decide +kernel)⟩
theorem lw_p4 : lw_okq (⟨"MoonRooms$Reader", "here", "()I"⟩, 4) := ⟨⟨by decide +kernel, by decide +kernel⟩, List.mem_of_getElem? (i := 142) (by decide +kernel), List.mem_of_getElem? (i := 430) (by decide +kernel), List.mem_of_getElem? (i := 431) (by decide +kernel)⟩
theorem lw_p5 : lw_okq (⟨"MoonRooms$Reader", "readNumber", "()V"⟩, 4) := ⟨⟨by decide +kernel, by decide +kernel⟩, List.mem_of_getElem? (i := 142) (by decide +kernel), List.mem_of_getElem? (i := 442) (by decide +kernel), List.mem_of_getElem? (i := 443) (by decide +kernel)⟩
theorem lw_p6 : lw_okq (⟨"MoonRooms$Reader", "nameOf", "(I)I"⟩, 4) := ⟨⟨by decide +kernel, by decide +kernel⟩, List.mem_of_getElem? (i := 142) (by decide +kernel), List.mem_of_getElem? (i := 447) (by decide +kernel), List.mem_of_getElem? (i := 448) (by decide +kernel)⟩
theorem lw_p7 : lw_okq (⟨"MoonRooms$Reader", "readNot", "(I)Z"⟩, 4) := ⟨⟨by decide +kernel, by decide +kernel⟩, List.mem_of_getElem? (i := 142) (by decide +kernel), List.mem_of_getElem? (i := 451) (by decide +kernel), List.mem_of_getElem? (i := 452) (by decide +kernel)⟩
theorem lw_p8 : lw_okq (⟨"MoonRooms$Reader", "readClosed", "(I)Z"⟩, 4) := ⟨⟨by decide +kernel, by decide +kernel⟩, List.mem_of_getElem? (i := 142) (by decide +kernel), List.mem_of_getElem? (i := 455) (by decide +kernel), List.mem_of_getElem? (i := 456) (by decide +kernel)⟩
theorem lw_p9 : lw_okq (⟨"MoonRooms$House", "earnAll", "()V"⟩, 9) := ⟨⟨by decide +kernel, by decide +kernel⟩, List.mem_of_getElem? (i := 27) (by decide +kernel), List.mem_of_getElem? (i := 485) (by decide +kernel), List.mem_of_getElem? (i := 486) (by decide +kernel)⟩
theorem lw_p10 : lw_okq (⟨"MoonRooms$Tenant", "wages", "(I)I"⟩, 5) := ⟨⟨by decide +kernel, by decide +kernel⟩, List.mem_of_getElem? (i := 74) (by decide +kernel), List.mem_of_getElem? (i := 496) (by decide +kernel), List.mem_of_getElem? (i := 497) (by decide +kernel)⟩
theorem lw_p11 : lw_okq (⟨"MoonRooms$House", "payAll", "()V"⟩, 9) := ⟨⟨by decide +kernel, by decide +kernel⟩, List.mem_of_getElem? (i := 27) (by decide +kernel), List.mem_of_getElem? (i := 501) (by decide +kernel), List.mem_of_getElem? (i := 502) (by decide +kernel)⟩
theorem lw_p12 : lw_okq (⟨"MoonRooms$House", "draw", "()I"⟩, 9) := ⟨⟨by decide +kernel, by decide +kernel⟩, List.mem_of_getElem? (i := 27) (by decide +kernel), List.mem_of_getElem? (i := 520) (by decide +kernel), List.mem_of_getElem? (i := 521) (by decide +kernel)⟩
theorem lw_p13 : lw_okq (⟨"MoonRooms$House", "isPeaceWithout", "(I)Z"⟩, 9) := ⟨⟨by decide +kernel, by decide +kernel⟩, List.mem_of_getElem? (i := 27) (by decide +kernel), List.mem_of_getElem? (i := 570) (by decide +kernel), List.mem_of_getElem? (i := 571) (by decide +kernel)⟩
theorem lw_p14 : lw_okq (⟨"MoonRooms", "findSheet", "(I)LMoonRooms$Sheet;"⟩, 9) := ⟨⟨by decide +kernel, by decide +kernel⟩, List.mem_of_getElem? (i := 19) (by decide +kernel), List.mem_of_getElem? (i := 592) (by decide +kernel), List.mem_of_getElem? (i := 593) (by decide +kernel)⟩
theorem lw_p15 : lw_okq (⟨"MoonRooms$Wishes", "wishedBy", "(I)I"⟩, 1) := ⟨⟨by decide +kernel, by decide +kernel⟩, List.mem_of_getElem? (i := 186) (by decide +kernel), List.mem_of_getElem? (i := 603) (by decide +kernel), List.mem_of_getElem? (i := 604) (by decide +kernel)⟩
def lw_privs_1 : List (MethodName × Nat) := [(⟨"MoonRooms", "fail", "(I)I"⟩, 9), (⟨"MoonRooms$Law", "workOut", "(III)I"⟩, 3), (⟨"MoonRooms$Reader", "readLevel", "(II)Z"⟩, 4), (⟨"MoonRooms$Reader", "readSingle", "(I)Z"⟩, 4), (⟨"MoonRooms$Reader", "here", "()I"⟩, 4), (⟨"MoonRooms$Reader", "readNumber", "()V"⟩, 4), (⟨"MoonRooms$Reader", "nameOf", "(I)I"⟩, 4), (⟨"MoonRooms$Reader", "readNot", "(I)Z"⟩, 4), (⟨"MoonRooms$Reader", "readClosed", "(I)Z"⟩, 4), (⟨"MoonRooms$House", "earnAll", "()V"⟩, 9), (⟨"MoonRooms$Tenant", "wages", "(I)I"⟩, 5), (⟨"MoonRooms$House", "payAll", "()V"⟩, 9), (⟨"MoonRooms$House", "draw", "()I"⟩, 9), (⟨"MoonRooms$House", "isPeaceWithout", "(I)Z"⟩, 9), (⟨"MoonRooms", "findSheet", "(I)LMoonRooms$Sheet;"⟩, 9), (⟨"MoonRooms$Wishes", "wishedBy", "(I)I"⟩, 1)]
theorem lw_r1 : ∀ q ∈ lw_privs_1, lw_okq q := List.forall_mem_cons.mpr ⟨lw_p0, List.forall_mem_cons.mpr ⟨lw_p1, List.forall_mem_cons.mpr ⟨lw_p2, List.forall_mem_cons.mpr ⟨lw_p3, List.forall_mem_cons.mpr ⟨lw_p4, List.forall_mem_cons.mpr ⟨lw_p5, List.forall_mem_cons.mpr ⟨lw_p6, List.forall_mem_cons.mpr ⟨lw_p7, List.forall_mem_cons.mpr ⟨lw_p8, List.forall_mem_cons.mpr ⟨lw_p9, List.forall_mem_cons.mpr ⟨lw_p10, List.forall_mem_cons.mpr ⟨lw_p11, List.forall_mem_cons.mpr ⟨lw_p12, List.forall_mem_cons.mpr ⟨lw_p13, List.forall_mem_cons.mpr ⟨lw_p14, List.forall_mem_cons.mpr ⟨lw_p15, fun _ h => absurd h List.not_mem_nil⟩⟩⟩⟩⟩⟩⟩⟩⟩⟩⟩⟩⟩⟩⟩⟩
theorem lw_p16 : lw_okq (⟨"MoonRooms$Wishes", "firstRoom", "(II)I"⟩, 1) := ⟨⟨by decide +kernel, by decide +kernel⟩, List.mem_of_getElem? (i := 186) (by decide +kernel), List.mem_of_getElem? (i := 614) (by decide +kernel), List.mem_of_getElem? (i := 615) (by decide +kernel)⟩
theorem lw_p17 : lw_okq (⟨"MoonRooms$Speaker", "say", "(IIII)I"⟩, 4) := ⟨⟨by decide +kernel, by decide +kernel⟩, List.mem_of_getElem? (i := 164) (by decide +kernel), List.mem_of_getElem? (i := 644) (by decide +kernel), List.mem_of_getElem? (i := 645) (by decide +kernel)⟩
theorem lw_p18 : lw_okq (⟨"MoonRoomsModel", "finding", "(I)I"⟩, 26) := ⟨⟨by decide +kernel, by decide +kernel⟩, List.mem_of_getElem? (i := 719) (by decide +kernel), List.mem_of_getElem? (i := 817) (by decide +kernel), List.mem_of_getElem? (i := 818) (by decide +kernel)⟩
theorem lw_p19 : lw_okq (⟨"MoonRoomsModel", "either", "()V"⟩, 26) := ⟨⟨by decide +kernel, by decide +kernel⟩, List.mem_of_getElem? (i := 719) (by decide +kernel), List.mem_of_getElem? (i := 828) (by decide +kernel), List.mem_of_getElem? (i := 829) (by decide +kernel)⟩
theorem lw_p20 : lw_okq (⟨"MoonRoomsModel", "both", "()V"⟩, 26) := ⟨⟨by decide +kernel, by decide +kernel⟩, List.mem_of_getElem? (i := 719) (by decide +kernel), List.mem_of_getElem? (i := 832) (by decide +kernel), List.mem_of_getElem? (i := 833) (by decide +kernel)⟩
theorem lw_p21 : lw_okq (⟨"MoonRoomsModel", "compared", "()V"⟩, 26) := ⟨⟨by decide +kernel, by decide +kernel⟩, List.mem_of_getElem? (i := 719) (by decide +kernel), List.mem_of_getElem? (i := 836) (by decide +kernel), List.mem_of_getElem? (i := 837) (by decide +kernel)⟩
theorem lw_p22 : lw_okq (⟨"MoonRoomsModel", "sum", "()V"⟩, 26) := ⟨⟨by decide +kernel, by decide +kernel⟩, List.mem_of_getElem? (i := 719) (by decide +kernel), List.mem_of_getElem? (i := 840) (by decide +kernel), List.mem_of_getElem? (i := 841) (by decide +kernel)⟩
theorem lw_p23 : lw_okq (⟨"MoonRoomsModel", "product", "()V"⟩, 26) := ⟨⟨by decide +kernel, by decide +kernel⟩, List.mem_of_getElem? (i := 719) (by decide +kernel), List.mem_of_getElem? (i := 844) (by decide +kernel), List.mem_of_getElem? (i := 845) (by decide +kernel)⟩
theorem lw_p24 : lw_okq (⟨"MoonRoomsModel", "one", "()V"⟩, 26) := ⟨⟨by decide +kernel, by decide +kernel⟩, List.mem_of_getElem? (i := 719) (by decide +kernel), List.mem_of_getElem? (i := 848) (by decide +kernel), List.mem_of_getElem? (i := 849) (by decide +kernel)⟩
theorem lw_p25 : lw_okq (⟨"MoonRoomsModel", "here", "()I"⟩, 26) := ⟨⟨by decide +kernel, by decide +kernel⟩, List.mem_of_getElem? (i := 719) (by decide +kernel), List.mem_of_getElem? (i := 852) (by decide +kernel), List.mem_of_getElem? (i := 853) (by decide +kernel)⟩
theorem lw_p26 : lw_okq (⟨"MoonRoomsModel", "codes", "(I)V"⟩, 26) := ⟨⟨by decide +kernel, by decide +kernel⟩, List.mem_of_getElem? (i := 719) (by decide +kernel), List.mem_of_getElem? (i := 856) (by decide +kernel), List.mem_of_getElem? (i := 857) (by decide +kernel)⟩
theorem lw_p27 : lw_okq (⟨"MoonRoomsModel", "takes", "(I)Z"⟩, 26) := ⟨⟨by decide +kernel, by decide +kernel⟩, List.mem_of_getElem? (i := 719) (by decide +kernel), List.mem_of_getElem? (i := 860) (by decide +kernel), List.mem_of_getElem? (i := 861) (by decide +kernel)⟩
theorem lw_p28 : lw_okq (⟨"MoonRoomsModel", "nameOf", "(I)I"⟩, 26) := ⟨⟨by decide +kernel, by decide +kernel⟩, List.mem_of_getElem? (i := 719) (by decide +kernel), List.mem_of_getElem? (i := 864) (by decide +kernel), List.mem_of_getElem? (i := 865) (by decide +kernel)⟩
theorem lw_p29 : lw_okq (⟨"MoonRoomsModel", "given", "(IIII)I"⟩, 26) := ⟨⟨by decide +kernel, by decide +kernel⟩, List.mem_of_getElem? (i := 719) (by decide +kernel), List.mem_of_getElem? (i := 920) (by decide +kernel), List.mem_of_getElem? (i := 921) (by decide +kernel)⟩
theorem lw_p30 : lw_okq (⟨"MoonRoomsModel", "hasText", "(I)Z"⟩, 26) := ⟨⟨by decide +kernel, by decide +kernel⟩, List.mem_of_getElem? (i := 719) (by decide +kernel), List.mem_of_getElem? (i := 924) (by decide +kernel), List.mem_of_getElem? (i := 925) (by decide +kernel)⟩
theorem lw_p31 : lw_okq (⟨"MoonRoomsModel", "worked", "(I)I"⟩, 26) := ⟨⟨by decide +kernel, by decide +kernel⟩, List.mem_of_getElem? (i := 719) (by decide +kernel), List.mem_of_getElem? (i := 928) (by decide +kernel), List.mem_of_getElem? (i := 929) (by decide +kernel)⟩
def lw_privs_2 : List (MethodName × Nat) := [(⟨"MoonRooms$Wishes", "firstRoom", "(II)I"⟩, 1), (⟨"MoonRooms$Speaker", "say", "(IIII)I"⟩, 4), (⟨"MoonRoomsModel", "finding", "(I)I"⟩, 26), (⟨"MoonRoomsModel", "either", "()V"⟩, 26), (⟨"MoonRoomsModel", "both", "()V"⟩, 26), (⟨"MoonRoomsModel", "compared", "()V"⟩, 26), (⟨"MoonRoomsModel", "sum", "()V"⟩, 26), (⟨"MoonRoomsModel", "product", "()V"⟩, 26), (⟨"MoonRoomsModel", "one", "()V"⟩, 26), (⟨"MoonRoomsModel", "here", "()I"⟩, 26), (⟨"MoonRoomsModel", "codes", "(I)V"⟩, 26), (⟨"MoonRoomsModel", "takes", "(I)Z"⟩, 26), (⟨"MoonRoomsModel", "nameOf", "(I)I"⟩, 26), (⟨"MoonRoomsModel", "given", "(IIII)I"⟩, 26), (⟨"MoonRoomsModel", "hasText", "(I)Z"⟩, 26), (⟨"MoonRoomsModel", "worked", "(I)I"⟩, 26)]
theorem lw_r2 : ∀ q ∈ lw_privs_2, lw_okq q := List.forall_mem_cons.mpr ⟨lw_p16, List.forall_mem_cons.mpr ⟨lw_p17, List.forall_mem_cons.mpr ⟨lw_p18, List.forall_mem_cons.mpr ⟨lw_p19, List.forall_mem_cons.mpr ⟨lw_p20, List.forall_mem_cons.mpr ⟨lw_p21, List.forall_mem_cons.mpr ⟨lw_p22, List.forall_mem_cons.mpr ⟨lw_p23, List.forall_mem_cons.mpr ⟨lw_p24, List.forall_mem_cons.mpr ⟨lw_p25, List.forall_mem_cons.mpr ⟨lw_p26, List.forall_mem_cons.mpr ⟨lw_p27, List.forall_mem_cons.mpr ⟨lw_p28, List.forall_mem_cons.mpr ⟨lw_p29, List.forall_mem_cons.mpr ⟨lw_p30, List.forall_mem_cons.mpr ⟨lw_p31, fun _ h => absurd h List.not_mem_nil⟩⟩⟩⟩⟩⟩⟩⟩⟩⟩⟩⟩⟩⟩⟩⟩
theorem lw_p32 : lw_okq (⟨"MoonRoomsModel", "litNow", "()I"⟩, 26) := ⟨⟨by decide +kernel, by decide +kernel⟩, List.mem_of_getElem? (i := 719) (by decide +kernel), List.mem_of_getElem? (i := 947) (by decide +kernel), List.mem_of_getElem? (i := 948) (by decide +kernel)⟩
theorem lw_p33 : lw_okq (⟨"MoonRoomsModel", "phase", "()I"⟩, 26) := ⟨⟨by decide +kernel, by decide +kernel⟩, List.mem_of_getElem? (i := 719) (by decide +kernel), List.mem_of_getElem? (i := 951) (by decide +kernel), List.mem_of_getElem? (i := 952) (by decide +kernel)⟩
theorem lw_p34 : lw_okq (⟨"MoonRoomsModel", "seenNow", "()I"⟩, 26) := ⟨⟨by decide +kernel, by decide +kernel⟩, List.mem_of_getElem? (i := 719) (by decide +kernel), List.mem_of_getElem? (i := 962) (by decide +kernel), List.mem_of_getElem? (i := 963) (by decide +kernel)⟩
theorem lw_p35 : lw_okq (⟨"MoonRoomsModel", "isCloudy", "()Z"⟩, 26) := ⟨⟨by decide +kernel, by decide +kernel⟩, List.mem_of_getElem? (i := 719) (by decide +kernel), List.mem_of_getElem? (i := 966) (by decide +kernel), List.mem_of_getElem? (i := 967) (by decide +kernel)⟩
theorem lw_p36 : lw_okq (⟨"MoonRoomsModel", "rentOf", "(I)I"⟩, 26) := ⟨⟨by decide +kernel, by decide +kernel⟩, List.mem_of_getElem? (i := 719) (by decide +kernel), List.mem_of_getElem? (i := 970) (by decide +kernel), List.mem_of_getElem? (i := 971) (by decide +kernel)⟩
theorem lw_p37 : lw_okq (⟨"MoonRoomsModel", "holders", "(I)I"⟩, 26) := ⟨⟨by decide +kernel, by decide +kernel⟩, List.mem_of_getElem? (i := 719) (by decide +kernel), List.mem_of_getElem? (i := 974) (by decide +kernel), List.mem_of_getElem? (i := 975) (by decide +kernel)⟩
theorem lw_p38 : lw_okq (⟨"MoonRoomsModel", "tenantIs", "(II)I"⟩, 26) := ⟨⟨by decide +kernel, by decide +kernel⟩, List.mem_of_getElem? (i := 719) (by decide +kernel), List.mem_of_getElem? (i := 978) (by decide +kernel), List.mem_of_getElem? (i := 979) (by decide +kernel)⟩
theorem lw_p39 : lw_okq (⟨"MoonRoomsModel", "turn", "(II)I"⟩, 26) := ⟨⟨by decide +kernel, by decide +kernel⟩, List.mem_of_getElem? (i := 719) (by decide +kernel), List.mem_of_getElem? (i := 999) (by decide +kernel), List.mem_of_getElem? (i := 1000) (by decide +kernel)⟩
theorem lw_p40 : lw_okq (⟨"MoonRoomsModel", "comes", "(I)I"⟩, 26) := ⟨⟨by decide +kernel, by decide +kernel⟩, List.mem_of_getElem? (i := 719) (by decide +kernel), List.mem_of_getElem? (i := 1010) (by decide +kernel), List.mem_of_getElem? (i := 1011) (by decide +kernel)⟩
theorem lw_p41 : lw_okq (⟨"MoonRoomsModel", "isTenant", "(I)Z"⟩, 26) := ⟨⟨by decide +kernel, by decide +kernel⟩, List.mem_of_getElem? (i := 719) (by decide +kernel), List.mem_of_getElem? (i := 1018) (by decide +kernel), List.mem_of_getElem? (i := 1019) (by decide +kernel)⟩
theorem lw_p42 : lw_okq (⟨"MoonRoomsModel", "looks", "(I)Z"⟩, 26) := ⟨⟨by decide +kernel, by decide +kernel⟩, List.mem_of_getElem? (i := 719) (by decide +kernel), List.mem_of_getElem? (i := 1023) (by decide +kernel), List.mem_of_getElem? (i := 1024) (by decide +kernel)⟩
theorem lw_p43 : lw_okq (⟨"MoonRoomsModel", "isOf", "(II)Z"⟩, 26) := ⟨⟨by decide +kernel, by decide +kernel⟩, List.mem_of_getElem? (i := 719) (by decide +kernel), List.mem_of_getElem? (i := 1027) (by decide +kernel), List.mem_of_getElem? (i := 1028) (by decide +kernel)⟩
theorem lw_p44 : lw_okq (⟨"MoonRoomsModel", "owes", "(I)I"⟩, 26) := ⟨⟨by decide +kernel, by decide +kernel⟩, List.mem_of_getElem? (i := 719) (by decide +kernel), List.mem_of_getElem? (i := 1037) (by decide +kernel), List.mem_of_getElem? (i := 1038) (by decide +kernel)⟩
theorem lw_p45 : lw_okq (⟨"MoonRoomsModel", "othersIn", "(I)I"⟩, 26) := ⟨⟨by decide +kernel, by decide +kernel⟩, List.mem_of_getElem? (i := 719) (by decide +kernel), List.mem_of_getElem? (i := 1041) (by decide +kernel), List.mem_of_getElem? (i := 1042) (by decide +kernel)⟩
theorem lw_p46 : lw_okq (⟨"MoonRoomsModel", "isOut", "(I)Z"⟩, 26) := ⟨⟨by decide +kernel, by decide +kernel⟩, List.mem_of_getElem? (i := 719) (by decide +kernel), List.mem_of_getElem? (i := 1062) (by decide +kernel), List.mem_of_getElem? (i := 1063) (by decide +kernel)⟩
theorem lw_p47 : lw_okq (⟨"MoonRoomsModel", "manyOut", "()I"⟩, 26) := ⟨⟨by decide +kernel, by decide +kernel⟩, List.mem_of_getElem? (i := 719) (by decide +kernel), List.mem_of_getElem? (i := 1075) (by decide +kernel), List.mem_of_getElem? (i := 1076) (by decide +kernel)⟩
def lw_privs_3 : List (MethodName × Nat) := [(⟨"MoonRoomsModel", "litNow", "()I"⟩, 26), (⟨"MoonRoomsModel", "phase", "()I"⟩, 26), (⟨"MoonRoomsModel", "seenNow", "()I"⟩, 26), (⟨"MoonRoomsModel", "isCloudy", "()Z"⟩, 26), (⟨"MoonRoomsModel", "rentOf", "(I)I"⟩, 26), (⟨"MoonRoomsModel", "holders", "(I)I"⟩, 26), (⟨"MoonRoomsModel", "tenantIs", "(II)I"⟩, 26), (⟨"MoonRoomsModel", "turn", "(II)I"⟩, 26), (⟨"MoonRoomsModel", "comes", "(I)I"⟩, 26), (⟨"MoonRoomsModel", "isTenant", "(I)Z"⟩, 26), (⟨"MoonRoomsModel", "looks", "(I)Z"⟩, 26), (⟨"MoonRoomsModel", "isOf", "(II)Z"⟩, 26), (⟨"MoonRoomsModel", "owes", "(I)I"⟩, 26), (⟨"MoonRoomsModel", "othersIn", "(I)I"⟩, 26), (⟨"MoonRoomsModel", "isOut", "(I)Z"⟩, 26), (⟨"MoonRoomsModel", "manyOut", "()I"⟩, 26)]
theorem lw_r3 : ∀ q ∈ lw_privs_3, lw_okq q := List.forall_mem_cons.mpr ⟨lw_p32, List.forall_mem_cons.mpr ⟨lw_p33, List.forall_mem_cons.mpr ⟨lw_p34, List.forall_mem_cons.mpr ⟨lw_p35, List.forall_mem_cons.mpr ⟨lw_p36, List.forall_mem_cons.mpr ⟨lw_p37, List.forall_mem_cons.mpr ⟨lw_p38, List.forall_mem_cons.mpr ⟨lw_p39, List.forall_mem_cons.mpr ⟨lw_p40, List.forall_mem_cons.mpr ⟨lw_p41, List.forall_mem_cons.mpr ⟨lw_p42, List.forall_mem_cons.mpr ⟨lw_p43, List.forall_mem_cons.mpr ⟨lw_p44, List.forall_mem_cons.mpr ⟨lw_p45, List.forall_mem_cons.mpr ⟨lw_p46, List.forall_mem_cons.mpr ⟨lw_p47, fun _ h => absurd h List.not_mem_nil⟩⟩⟩⟩⟩⟩⟩⟩⟩⟩⟩⟩⟩⟩⟩⟩
theorem lw_p48 : lw_okq (⟨"MoonRoomsModel", "pass", "(I)V"⟩, 26) := ⟨⟨by decide +kernel, by decide +kernel⟩, List.mem_of_getElem? (i := 719) (by decide +kernel), List.mem_of_getElem? (i := 1083) (by decide +kernel), List.mem_of_getElem? (i := 1084) (by decide +kernel)⟩
theorem lw_p49 : lw_okq (⟨"MoonRoomsModel", "night", "()V"⟩, 26) := ⟨⟨by decide +kernel, by decide +kernel⟩, List.mem_of_getElem? (i := 719) (by decide +kernel), List.mem_of_getElem? (i := 1087) (by decide +kernel), List.mem_of_getElem? (i := 1088) (by decide +kernel)⟩
theorem lw_p50 : lw_okq (⟨"MoonRoomsModel", "earns", "(I)I"⟩, 26) := ⟨⟨by decide +kernel, by decide +kernel⟩, List.mem_of_getElem? (i := 719) (by decide +kernel), List.mem_of_getElem? (i := 1091) (by decide +kernel), List.mem_of_getElem? (i := 1092) (by decide +kernel)⟩
theorem lw_p51 : lw_okq (⟨"MoonRoomsModel", "pays", "(I)V"⟩, 26) := ⟨⟨by decide +kernel, by decide +kernel⟩, List.mem_of_getElem? (i := 719) (by decide +kernel), List.mem_of_getElem? (i := 1095) (by decide +kernel), List.mem_of_getElem? (i := 1096) (by decide +kernel)⟩
theorem lw_p52 : lw_okq (⟨"MoonRoomsModel", "drawn", "()I"⟩, 26) := ⟨⟨by decide +kernel, by decide +kernel⟩, List.mem_of_getElem? (i := 719) (by decide +kernel), List.mem_of_getElem? (i := 1103) (by decide +kernel), List.mem_of_getElem? (i := 1104) (by decide +kernel)⟩
theorem lw_p53 : lw_okq (⟨"MoonRoomsModel", "takesByDraws", "()V"⟩, 26) := ⟨⟨by decide +kernel, by decide +kernel⟩, List.mem_of_getElem? (i := 719) (by decide +kernel), List.mem_of_getElem? (i := 1108) (by decide +kernel), List.mem_of_getElem? (i := 1109) (by decide +kernel)⟩
theorem lw_p54 : lw_okq (⟨"MoonRoomsModel", "putBack", "(I)I"⟩, 26) := ⟨⟨by decide +kernel, by decide +kernel⟩, List.mem_of_getElem? (i := 719) (by decide +kernel), List.mem_of_getElem? (i := 1119) (by decide +kernel), List.mem_of_getElem? (i := 1120) (by decide +kernel)⟩
theorem lw_p55 : lw_okq (⟨"MoonRoomsModel", "clashBut", "(I)I"⟩, 26) := ⟨⟨by decide +kernel, by decide +kernel⟩, List.mem_of_getElem? (i := 719) (by decide +kernel), List.mem_of_getElem? (i := 1140) (by decide +kernel), List.mem_of_getElem? (i := 1141) (by decide +kernel)⟩
theorem lw_p56 : lw_okq (⟨"MoonRoomsModel", "clashes", "(II)Z"⟩, 26) := ⟨⟨by decide +kernel, by decide +kernel⟩, List.mem_of_getElem? (i := 719) (by decide +kernel), List.mem_of_getElem? (i := 1144) (by decide +kernel), List.mem_of_getElem? (i := 1145) (by decide +kernel)⟩
theorem lw_p57 : lw_okq (⟨"MoonRoomsModel", "tellsWishes", "(I)Z"⟩, 26) := ⟨⟨by decide +kernel, by decide +kernel⟩, List.mem_of_getElem? (i := 719) (by decide +kernel), List.mem_of_getElem? (i := 1163) (by decide +kernel), List.mem_of_getElem? (i := 1164) (by decide +kernel)⟩
theorem lw_p58 : lw_okq (⟨"MoonRoomsModel", "mostRooms", "()I"⟩, 26) := ⟨⟨by decide +kernel, by decide +kernel⟩, List.mem_of_getElem? (i := 719) (by decide +kernel), List.mem_of_getElem? (i := 1167) (by decide +kernel), List.mem_of_getElem? (i := 1168) (by decide +kernel)⟩
theorem lw_p59 : lw_okq (⟨"MoonRoomsModel", "gets", "(I)Z"⟩, 26) := ⟨⟨by decide +kernel, by decide +kernel⟩, List.mem_of_getElem? (i := 719) (by decide +kernel), List.mem_of_getElem? (i := 1171) (by decide +kernel), List.mem_of_getElem? (i := 1172) (by decide +kernel)⟩
theorem lw_p60 : lw_okq (⟨"MoonRoomsModel", "settle", "(I)V"⟩, 26) := ⟨⟨by decide +kernel, by decide +kernel⟩, List.mem_of_getElem? (i := 719) (by decide +kernel), List.mem_of_getElem? (i := 1175) (by decide +kernel), List.mem_of_getElem? (i := 1176) (by decide +kernel)⟩
theorem lw_p61 : lw_okq (⟨"MoonRoomsModel", "isAlone", "(I)Z"⟩, 26) := ⟨⟨by decide +kernel, by decide +kernel⟩, List.mem_of_getElem? (i := 719) (by decide +kernel), List.mem_of_getElem? (i := 1179) (by decide +kernel), List.mem_of_getElem? (i := 1180) (by decide +kernel)⟩
theorem lw_p62 : lw_okq (⟨"MoonRoomsModel", "looksOf", "(I)I"⟩, 26) := ⟨⟨by decide +kernel, by decide +kernel⟩, List.mem_of_getElem? (i := 719) (by decide +kernel), List.mem_of_getElem? (i := 1203) (by decide +kernel), List.mem_of_getElem? (i := 1204) (by decide +kernel)⟩
theorem lw_p63 : lw_okq (⟨"MoonRoomsModel", "runs", "(I)V"⟩, 26) := ⟨⟨by decide +kernel, by decide +kernel⟩, List.mem_of_getElem? (i := 719) (by decide +kernel), List.mem_of_getElem? (i := 1207) (by decide +kernel), List.mem_of_getElem? (i := 1208) (by decide +kernel)⟩
def lw_privs_4 : List (MethodName × Nat) := [(⟨"MoonRoomsModel", "pass", "(I)V"⟩, 26), (⟨"MoonRoomsModel", "night", "()V"⟩, 26), (⟨"MoonRoomsModel", "earns", "(I)I"⟩, 26), (⟨"MoonRoomsModel", "pays", "(I)V"⟩, 26), (⟨"MoonRoomsModel", "drawn", "()I"⟩, 26), (⟨"MoonRoomsModel", "takesByDraws", "()V"⟩, 26), (⟨"MoonRoomsModel", "putBack", "(I)I"⟩, 26), (⟨"MoonRoomsModel", "clashBut", "(I)I"⟩, 26), (⟨"MoonRoomsModel", "clashes", "(II)Z"⟩, 26), (⟨"MoonRoomsModel", "tellsWishes", "(I)Z"⟩, 26), (⟨"MoonRoomsModel", "mostRooms", "()I"⟩, 26), (⟨"MoonRoomsModel", "gets", "(I)Z"⟩, 26), (⟨"MoonRoomsModel", "settle", "(I)V"⟩, 26), (⟨"MoonRoomsModel", "isAlone", "(I)Z"⟩, 26), (⟨"MoonRoomsModel", "looksOf", "(I)I"⟩, 26), (⟨"MoonRoomsModel", "runs", "(I)V"⟩, 26)]
theorem lw_r4 : ∀ q ∈ lw_privs_4, lw_okq q := List.forall_mem_cons.mpr ⟨lw_p48, List.forall_mem_cons.mpr ⟨lw_p49, List.forall_mem_cons.mpr ⟨lw_p50, List.forall_mem_cons.mpr ⟨lw_p51, List.forall_mem_cons.mpr ⟨lw_p52, List.forall_mem_cons.mpr ⟨lw_p53, List.forall_mem_cons.mpr ⟨lw_p54, List.forall_mem_cons.mpr ⟨lw_p55, List.forall_mem_cons.mpr ⟨lw_p56, List.forall_mem_cons.mpr ⟨lw_p57, List.forall_mem_cons.mpr ⟨lw_p58, List.forall_mem_cons.mpr ⟨lw_p59, List.forall_mem_cons.mpr ⟨lw_p60, List.forall_mem_cons.mpr ⟨lw_p61, List.forall_mem_cons.mpr ⟨lw_p62, List.forall_mem_cons.mpr ⟨lw_p63, fun _ h => absurd h List.not_mem_nil⟩⟩⟩⟩⟩⟩⟩⟩⟩⟩⟩⟩⟩⟩⟩⟩
theorem lw_p64 : lw_okq (⟨"MoonRoomsModel", "paysOf", "(I)I"⟩, 26) := ⟨⟨by decide +kernel, by decide +kernel⟩, List.mem_of_getElem? (i := 719) (by decide +kernel), List.mem_of_getElem? (i := 1211) (by decide +kernel), List.mem_of_getElem? (i := 1212) (by decide +kernel)⟩
theorem lw_p65 : lw_okq (⟨"MoonRoomsModel", "holdsOf", "(I)I"⟩, 26) := ⟨⟨by decide +kernel, by decide +kernel⟩, List.mem_of_getElem? (i := 719) (by decide +kernel), List.mem_of_getElem? (i := 1215) (by decide +kernel), List.mem_of_getElem? (i := 1216) (by decide +kernel)⟩
theorem lw_p66 : lw_okq (⟨"MoonRoomsModel", "tellsOf", "(I)I"⟩, 26) := ⟨⟨by decide +kernel, by decide +kernel⟩, List.mem_of_getElem? (i := 719) (by decide +kernel), List.mem_of_getElem? (i := 1219) (by decide +kernel), List.mem_of_getElem? (i := 1220) (by decide +kernel)⟩
theorem lw_p67 : lw_okq (⟨"MoonRoomsModel", "plainTells", "(I)I"⟩, 26) := ⟨⟨by decide +kernel, by decide +kernel⟩, List.mem_of_getElem? (i := 719) (by decide +kernel), List.mem_of_getElem? (i := 1223) (by decide +kernel), List.mem_of_getElem? (i := 1224) (by decide +kernel)⟩
theorem lw_p68 : lw_okq (⟨"MoonRoomsModel", "heldNow", "()I"⟩, 26) := ⟨⟨by decide +kernel, by decide +kernel⟩, List.mem_of_getElem? (i := 719) (by decide +kernel), List.mem_of_getElem? (i := 1271) (by decide +kernel), List.mem_of_getElem? (i := 1272) (by decide +kernel)⟩
def lw_privs_5 : List (MethodName × Nat) := [(⟨"MoonRoomsModel", "paysOf", "(I)I"⟩, 26), (⟨"MoonRoomsModel", "holdsOf", "(I)I"⟩, 26), (⟨"MoonRoomsModel", "tellsOf", "(I)I"⟩, 26), (⟨"MoonRoomsModel", "plainTells", "(I)I"⟩, 26), (⟨"MoonRoomsModel", "heldNow", "()I"⟩, 26)]
theorem lw_r5 : ∀ q ∈ lw_privs_5, lw_okq q := List.forall_mem_cons.mpr ⟨lw_p64, List.forall_mem_cons.mpr ⟨lw_p65, List.forall_mem_cons.mpr ⟨lw_p66, List.forall_mem_cons.mpr ⟨lw_p67, List.forall_mem_cons.mpr ⟨lw_p68, fun _ h => absurd h List.not_mem_nil⟩⟩⟩⟩⟩
def lw_privs : List (MethodName × Nat) := lw_privs_1 ++ (lw_privs_2 ++ (lw_privs_3 ++ (lw_privs_4 ++ (lw_privs_5))))
def lw_tbl : List Cond := k2_sels lw_privs ++ tables_1
theorem lw_privs_ok : ∀ q ∈ lw_privs, lw_okq q := by
  show ∀ q ∈ lw_privs_1 ++ (lw_privs_2 ++ (lw_privs_3 ++ (lw_privs_4 ++ (lw_privs_5)))), lw_okq q
  exact List.forall_mem_append.mpr ⟨lw_r1, List.forall_mem_append.mpr ⟨lw_r2, List.forall_mem_append.mpr ⟨lw_r3, List.forall_mem_append.mpr ⟨lw_r4, lw_r5⟩⟩⟩⟩
-- ===== end of PART A; then your names; then what follows =====
end
section
/-! ===== BEGIN printed: names, fields, word lists, decode rows ===== -/
def RX0 : String := "MoonRooms$House"
def TX0 : u_T := fun k => match k with
  | 0 => ("MoonRooms$House", "night", "I", false)
  | 1 => ("MoonRooms$House", "weather", "I", false)
  | 2 => ("MoonRooms$House", "z", "I", false)
  | 3 => ("MoonRooms$House", "tenants", "I", false)
  | 4 => ("MoonRooms$House", "all", "[LMoonRooms$Tenant;", true)
  | 5 => ("MoonRooms$House", "tape", "LMoonRooms$Row;", true)
  | 6 => ("MoonRooms$House", "waiting", "LMoonRooms$Row;", true)
  | 7 => ("MoonRooms$House", "clouds", "LMoonRooms$Law;", true)
  | _ => ("MoonRooms$House", "rents", "LMoonRooms$Law;", true)
def tyX0 : Nat → FieldType := fun k => match k with
  | 0 => .int
  | 1 => .int
  | 2 => .int
  | 3 => .int
  | 4 => .array (.object "MoonRooms$Tenant")
  | 5 => .object "MoonRooms$Row"
  | 6 => .object "MoonRooms$Row"
  | 7 => .object "MoonRooms$Law"
  | _ => .object "MoonRooms$Law"
abbrev wsX00 : List Cond := u_ws RX0 TX0 9
theorem nmX0 : ∀ a, a < 9 → ∀ b, b < 9 → a ≠ b → (TX0 a).2.1 ≠ (TX0 b).2.1 := by decide +kernel
theorem tyX0_ok : ∀ k, k < 9 → parseFieldDescriptor (TX0 k).2.2.1 = some (tyX0 k) := by decide +kernel
abbrev cX0_init : ByteArray := prog_2_method_1_code
def yX0_init : MethodName := ⟨RX0, "<init>", "()V"⟩
abbrev cX0_copyFrom : ByteArray := prog_2_method_2_code
def yX0_copyFrom : MethodName := ⟨RX0, "copyFrom", "(LMoonRooms$House;)V"⟩
abbrev cX0_find : ByteArray := prog_2_method_3_code
def yX0_find : MethodName := ⟨RX0, "find", "(I)LMoonRooms$Tenant;"⟩
abbrev cX0_takeIn : ByteArray := prog_2_method_4_code
def yX0_takeIn : MethodName := ⟨RX0, "takeIn", "(II)I"⟩
abbrev cX0_lawOf : ByteArray := prog_2_method_5_code
def yX0_lawOf : MethodName := ⟨RX0, "lawOf", "(I)LMoonRooms$Law;"⟩
abbrev cX0_seenIn : ByteArray := prog_2_method_6_code
def yX0_seenIn : MethodName := ⟨RX0, "seenIn", "(I)I"⟩
abbrev cX0_holdersOf : ByteArray := prog_2_method_7_code
def yX0_holdersOf : MethodName := ⟨RX0, "holdersOf", "(I)I"⟩
abbrev cX0_heldByOthers : ByteArray := prog_2_method_8_code
def yX0_heldByOthers : MethodName := ⟨RX0, "heldByOthers", "(I)I"⟩
abbrev cX0_sharersWith : ByteArray := prog_2_method_9_code
def yX0_sharersWith : MethodName := ⟨RX0, "sharersWith", "(I)I"⟩
abbrev cX0_howManyEvicted : ByteArray := prog_2_method_10_code
def yX0_howManyEvicted : MethodName := ⟨RX0, "howManyEvicted", "()I"⟩
abbrev cX0_rentTogether : ByteArray := prog_2_method_11_code
def yX0_rentTogether : MethodName := ⟨RX0, "rentTogether", "(I)I"⟩
abbrev cX0_passNights : ByteArray := prog_2_method_12_code
def yX0_passNights : MethodName := ⟨RX0, "passNights", "(I)V"⟩
abbrev cX0_earnAll : ByteArray := prog_2_method_13_code
def yX0_earnAll : MethodName := ⟨RX0, "earnAll", "()V"⟩
abbrev cX0_payAll : ByteArray := prog_2_method_14_code
def yX0_payAll : MethodName := ⟨RX0, "payAll", "()V"⟩
abbrev cX0_draw : ByteArray := prog_2_method_15_code
def yX0_draw : MethodName := ⟨RX0, "draw", "()I"⟩
abbrev cX0_drawNight : ByteArray := prog_2_method_16_code
def yX0_drawNight : MethodName := ⟨RX0, "drawNight", "()V"⟩
abbrev cX0_clashersWith : ByteArray := prog_2_method_17_code
def yX0_clashersWith : MethodName := ⟨RX0, "clashersWith", "(I)I"⟩
abbrev cX0_leastToGiveUp : ByteArray := prog_2_method_18_code
def yX0_leastToGiveUp : MethodName := ⟨RX0, "leastToGiveUp", "()I"⟩
abbrev cX0_isPeaceWithout : ByteArray := prog_2_method_19_code
def yX0_isPeaceWithout : MethodName := ⟨RX0, "isPeaceWithout", "(I)Z"⟩
def RX1 : String := "MoonRooms$Law"
def TX1 : u_T := fun k => match k with
  | 0 => ("MoonRooms$Law", "use", "I", true)
  | 1 => ("MoonRooms$Law", "code", "LMoonRooms$Row;", true)
  | _ => ("MoonRooms$Law", "stack", "[I", true)
def tyX1 : Nat → FieldType := fun k => match k with
  | 0 => .int
  | 1 => .object "MoonRooms$Row"
  | _ => .array .int
abbrev wsX10 : List Cond := u_ws RX1 TX1 3
theorem nmX1 : ∀ a, a < 3 → ∀ b, b < 3 → a ≠ b → (TX1 a).2.1 ≠ (TX1 b).2.1 := by decide +kernel
theorem tyX1_ok : ∀ k, k < 3 → parseFieldDescriptor (TX1 k).2.2.1 = some (tyX1 k) := by decide +kernel
abbrev cX1_init : ByteArray := prog_3_method_1_code
def yX1_init : MethodName := ⟨RX1, "<init>", "(I)V"⟩
abbrev cX1_copyFrom : ByteArray := prog_3_method_2_code
def yX1_copyFrom : MethodName := ⟨RX1, "copyFrom", "(LMoonRooms$Row;)V"⟩
abbrev cX1_rule : ByteArray := prog_3_method_3_code
def yX1_rule : MethodName := ⟨RX1, "rule", "(III)I"⟩
abbrev cX1_workOut : ByteArray := prog_3_method_4_code
def yX1_workOut : MethodName := ⟨RX1, "workOut", "(III)I"⟩
abbrev cX1_valueOf : ByteArray := prog_3_method_5_code
def yX1_valueOf : MethodName := ⟨RX1, "valueOf", "(IIII)I"⟩
abbrev cX1_join : ByteArray := prog_3_method_6_code
def yX1_join : MethodName := ⟨RX1, "join", "(III)I"⟩
abbrev cX1_asInt : ByteArray := prog_3_method_7_code
def yX1_asInt : MethodName := ⟨RX1, "asInt", "(Z)I"⟩
def RX2 : String := "MoonRooms$Reader"
def TX2 : u_T := fun k => match k with
  | 0 => ("MoonRooms$Reader", "tape", "LMoonRooms$Row;", true)
  | 1 => ("MoonRooms$Reader", "code", "LMoonRooms$Row;", true)
  | 2 => ("MoonRooms$Reader", "use", "I", false)
  | _ => ("MoonRooms$Reader", "place", "I", false)
def tyX2 : Nat → FieldType := fun k => match k with
  | 0 => .object "MoonRooms$Row"
  | 1 => .object "MoonRooms$Row"
  | 2 => .int
  | _ => .int
abbrev wsX20 : List Cond := u_ws RX2 TX2 4
theorem nmX2 : ∀ a, a < 4 → ∀ b, b < 4 → a ≠ b → (TX2 a).2.1 ≠ (TX2 b).2.1 := by decide +kernel
theorem tyX2_ok : ∀ k, k < 4 → parseFieldDescriptor (TX2 k).2.2.1 = some (tyX2 k) := by decide +kernel
abbrev cX2_init : ByteArray := prog_4_method_1_code
def yX2_init : MethodName := ⟨RX2, "<init>", "()V"⟩
abbrev cX2_read : ByteArray := prog_4_method_2_code
def yX2_read : MethodName := ⟨RX2, "read", "(LMoonRooms$Row;I)I"⟩
abbrev cX2_here : ByteArray := prog_4_method_3_code
def yX2_here : MethodName := ⟨RX2, "here", "()I"⟩
abbrev cX2_readLevel : ByteArray := prog_4_method_4_code
def yX2_readLevel : MethodName := ⟨RX2, "readLevel", "(II)Z"⟩
abbrev cX2_readSingle : ByteArray := prog_4_method_5_code
def yX2_readSingle : MethodName := ⟨RX2, "readSingle", "(I)Z"⟩
abbrev cX2_readNot : ByteArray := prog_4_method_6_code
def yX2_readNot : MethodName := ⟨RX2, "readNot", "(I)Z"⟩
abbrev cX2_readClosed : ByteArray := prog_4_method_7_code
def yX2_readClosed : MethodName := ⟨RX2, "readClosed", "(I)Z"⟩
abbrev cX2_readNumber : ByteArray := prog_4_method_8_code
def yX2_readNumber : MethodName := ⟨RX2, "readNumber", "()V"⟩
abbrev cX2_nameOf : ByteArray := prog_4_method_9_code
def yX2_nameOf : MethodName := ⟨RX2, "nameOf", "(I)I"⟩
abbrev cX2_isDigit : ByteArray := prog_4_method_10_code
def yX2_isDigit : MethodName := ⟨RX2, "isDigit", "(I)Z"⟩
abbrev cX2_levelOf : ByteArray := prog_4_method_11_code
def yX2_levelOf : MethodName := ⟨RX2, "levelOf", "(I)I"⟩
def RX3 : String := "MoonRooms$Row"
def TX3 : u_T := fun k => match k with
  | 0 => ("MoonRooms$Row", "numbers", "[I", true)
  | _ => ("MoonRooms$Row", "size", "I", false)
def tyX3 : Nat → FieldType := fun k => match k with
  | 0 => .array .int
  | _ => .int
abbrev wsX30 : List Cond := u_ws RX3 TX3 2
theorem nmX3 : ∀ a, a < 2 → ∀ b, b < 2 → a ≠ b → (TX3 a).2.1 ≠ (TX3 b).2.1 := by decide +kernel
theorem tyX3_ok : ∀ k, k < 2 → parseFieldDescriptor (TX3 k).2.2.1 = some (tyX3 k) := by decide +kernel
abbrev cX3_init : ByteArray := prog_5_method_1_code
def yX3_init : MethodName := ⟨RX3, "<init>", "(I)V"⟩
abbrev cX3_has : ByteArray := prog_5_method_2_code
def yX3_has : MethodName := ⟨RX3, "has", "(I)Z"⟩
abbrev cX3_get : ByteArray := prog_5_method_3_code
def yX3_get : MethodName := ⟨RX3, "get", "(I)I"⟩
abbrev cX3_set : ByteArray := prog_5_method_4_code
def yX3_set : MethodName := ⟨RX3, "set", "(II)V"⟩
abbrev cX3_add : ByteArray := prog_5_method_5_code
def yX3_add : MethodName := ⟨RX3, "add", "(I)Z"⟩
abbrev cX3_empty : ByteArray := prog_5_method_6_code
def yX3_empty : MethodName := ⟨RX3, "empty", "()V"⟩
abbrev cX3_fillWithNone : ByteArray := prog_5_method_7_code
def yX3_fillWithNone : MethodName := ⟨RX3, "fillWithNone", "(I)V"⟩
abbrev cX3_copyFrom : ByteArray := prog_5_method_8_code
def yX3_copyFrom : MethodName := ⟨RX3, "copyFrom", "(LMoonRooms$Row;)V"⟩
abbrev cX3_takeFrom : ByteArray := prog_5_method_9_code
def yX3_takeFrom : MethodName := ⟨RX3, "takeFrom", "(LMoonRooms$Row;III)Z"⟩
def RX4 : String := "MoonRooms$Sheet"
def TX4 : u_T := fun k => match k with
  | 0 => ("MoonRooms$Sheet", "row", "LMoonRooms$Row;", true)
  | _ => ("MoonRooms$Sheet", "bits", "I", false)
def tyX4 : Nat → FieldType := fun k => match k with
  | 0 => .object "MoonRooms$Row"
  | _ => .int
abbrev wsX40 : List Cond := u_ws RX4 TX4 2
theorem nmX4 : ∀ a, a < 2 → ∀ b, b < 2 → a ≠ b → (TX4 a).2.1 ≠ (TX4 b).2.1 := by decide +kernel
theorem tyX4_ok : ∀ k, k < 2 → parseFieldDescriptor (TX4 k).2.2.1 = some (tyX4 k) := by decide +kernel
abbrev cX4_init : ByteArray := prog_6_method_1_code
def yX4_init : MethodName := ⟨RX4, "<init>", "()V"⟩
abbrev cX4_lowestBits : ByteArray := prog_6_method_2_code
def yX4_lowestBits : MethodName := ⟨RX4, "lowestBits", "(I)I"⟩
def RX5 : String := "MoonRooms$Speaker"
def TX5 : u_T := fun k => match k with
  | 0 => ("MoonRooms$Speaker", "bodies", "LMoonRooms$Row;", true)
  | 1 => ("MoonRooms$Speaker", "kind", "I", false)
  | 2 => ("MoonRooms$Speaker", "number", "I", false)
  | _ => ("MoonRooms$Speaker", "m", "I", false)
def tyX5 : Nat → FieldType := fun k => match k with
  | 0 => .object "MoonRooms$Row"
  | 1 => .int
  | 2 => .int
  | _ => .int
abbrev wsX50 : List Cond := u_ws RX5 TX5 4
theorem nmX5 : ∀ a, a < 4 → ∀ b, b < 4 → a ≠ b → (TX5 a).2.1 ≠ (TX5 b).2.1 := by decide +kernel
theorem tyX5_ok : ∀ k, k < 4 → parseFieldDescriptor (TX5 k).2.2.1 = some (tyX5 k) := by decide +kernel
abbrev cX5_init : ByteArray := prog_7_method_1_code
def yX5_init : MethodName := ⟨RX5, "<init>", "()V"⟩
abbrev cX5_speak : ByteArray := prog_7_method_2_code
def yX5_speak : MethodName := ⟨RX5, "speak", "(LMoonRooms$Tenant;III)I"⟩
abbrev cX5_bodyOf : ByteArray := prog_7_method_3_code
def yX5_bodyOf : MethodName := ⟨RX5, "bodyOf", "(II)I"⟩
abbrev cX5_say : ByteArray := prog_7_method_4_code
def yX5_say : MethodName := ⟨RX5, "say", "(IIII)I"⟩
def RX6 : String := "MoonRooms$Tenant"
def TX6 : u_T := fun k => match k with
  | 0 => ("MoonRooms$Tenant", "kind", "I", false)
  | 1 => ("MoonRooms$Tenant", "m", "I", false)
  | 2 => ("MoonRooms$Tenant", "lease", "I", false)
  | 3 => ("MoonRooms$Tenant", "purse", "I", false)
  | _ => ("MoonRooms$Tenant", "evicted", "Z", false)
def tyX6 : Nat → FieldType := fun k => match k with
  | 0 => .int
  | 1 => .int
  | 2 => .int
  | 3 => .int
  | _ => .boolean
abbrev wsX60 : List Cond := u_ws RX6 TX6 5
theorem nmX6 : ∀ a, a < 5 → ∀ b, b < 5 → a ≠ b → (TX6 a).2.1 ≠ (TX6 b).2.1 := by decide +kernel
theorem tyX6_ok : ∀ k, k < 5 → parseFieldDescriptor (TX6 k).2.2.1 = some (tyX6 k) := by decide +kernel
abbrev cX6_init : ByteArray := prog_8_method_1_code
def yX6_init : MethodName := ⟨RX6, "<init>", "()V"⟩
abbrev cX6_copyFrom : ByteArray := prog_8_method_2_code
def yX6_copyFrom : MethodName := ⟨RX6, "copyFrom", "(LMoonRooms$Tenant;)V"⟩
abbrev cX6_looksIn : ByteArray := prog_8_method_3_code
def yX6_looksIn : MethodName := ⟨RX6, "looksIn", "(I)Z"⟩
abbrev cX6_earn : ByteArray := prog_8_method_4_code
def yX6_earn : MethodName := ⟨RX6, "earn", "(II)V"⟩
abbrev cX6_wages : ByteArray := prog_8_method_5_code
def yX6_wages : MethodName := ⟨RX6, "wages", "(I)I"⟩
abbrev cX6_owesBy : ByteArray := prog_8_method_6_code
def yX6_owesBy : MethodName := ⟨RX6, "owesBy", "(II)I"⟩
abbrev cX6_pay : ByteArray := prog_8_method_7_code
def yX6_pay : MethodName := ⟨RX6, "pay", "(I)V"⟩
def RX7 : String := "MoonRooms$Wishes"
def TX7 : u_T := fun k => match k with
  | _ => ("MoonRooms$Wishes", "sets", "LMoonRooms$Row;", true)
def tyX7 : Nat → FieldType := fun k => match k with
  | _ => .object "MoonRooms$Row"
abbrev wsX70 : List Cond := u_ws RX7 TX7 1
theorem nmX7 : ∀ a, a < 1 → ∀ b, b < 1 → a ≠ b → (TX7 a).2.1 ≠ (TX7 b).2.1 := by decide +kernel
theorem tyX7_ok : ∀ k, k < 1 → parseFieldDescriptor (TX7 k).2.2.1 = some (tyX7 k) := by decide +kernel
abbrev cX7_init : ByteArray := prog_9_method_1_code
def yX7_init : MethodName := ⟨RX7, "<init>", "()V"⟩
abbrev cX7_mostFrom : ByteArray := prog_9_method_2_code
def yX7_mostFrom : MethodName := ⟨RX7, "mostFrom", "(II)I"⟩
abbrev cX7_wishedBy : ByteArray := prog_9_method_3_code
def yX7_wishedBy : MethodName := ⟨RX7, "wishedBy", "(I)I"⟩
abbrev cX7_roomOf : ByteArray := prog_9_method_4_code
def yX7_roomOf : MethodName := ⟨RX7, "roomOf", "(I)I"⟩
abbrev cX7_firstRoom : ByteArray := prog_9_method_5_code
def yX7_firstRoom : MethodName := ⟨RX7, "firstRoom", "(II)I"⟩
def RX8 : String := "MoonRooms"
def TX8 : u_T := fun k => match k with
  | 0 => ("MoonRooms", "now", "LMoonRooms$House;", true)
  | 1 => ("MoonRooms", "kept", "LMoonRooms$House;", true)
  | 2 => ("MoonRooms", "thought", "LMoonRooms$House;", true)
  | 3 => ("MoonRooms", "reader", "LMoonRooms$Reader;", true)
  | 4 => ("MoonRooms", "speaker", "LMoonRooms$Speaker;", true)
  | 5 => ("MoonRooms", "wishes", "LMoonRooms$Wishes;", true)
  | 6 => ("MoonRooms", "sheets", "[LMoonRooms$Sheet;", true)
  | 7 => ("MoonRooms", "errors", "[I", true)
  | _ => ("MoonRooms", "images", "I", false)
def tyX8 : Nat → FieldType := fun k => match k with
  | 0 => .object "MoonRooms$House"
  | 1 => .object "MoonRooms$House"
  | 2 => .object "MoonRooms$House"
  | 3 => .object "MoonRooms$Reader"
  | 4 => .object "MoonRooms$Speaker"
  | 5 => .object "MoonRooms$Wishes"
  | 6 => .array (.object "MoonRooms$Sheet")
  | 7 => .array .int
  | _ => .int
abbrev wsX80 : List Cond := u_ws RX8 TX8 9
theorem nmX8 : ∀ a, a < 9 → ∀ b, b < 9 → a ≠ b → (TX8 a).2.1 ≠ (TX8 b).2.1 := by decide +kernel
theorem tyX8_ok : ∀ k, k < 9 → parseFieldDescriptor (TX8 k).2.2.1 = some (tyX8 k) := by decide +kernel
abbrev cX8_init : ByteArray := prog_1_method_1_code
def yX8_init : MethodName := ⟨RX8, "<init>", "()V"⟩
abbrev cX8_ofCell : ByteArray := prog_1_method_2_code
def yX8_ofCell : MethodName := ⟨RX8, "ofCell", "(II)I"⟩
abbrev cX8_lit : ByteArray := prog_1_method_3_code
def yX8_lit : MethodName := ⟨RX8, "lit", "(I)I"⟩
abbrev cX8_weather : ByteArray := prog_1_method_4_code
def yX8_weather : MethodName := ⟨RX8, "weather", "(I)I"⟩
abbrev cX8_tenant : ByteArray := prog_1_method_5_code
def yX8_tenant : MethodName := ⟨RX8, "tenant", "(I)I"⟩
abbrev cX8_ofTenant : ByteArray := prog_1_method_6_code
def yX8_ofTenant : MethodName := ⟨RX8, "ofTenant", "(II)I"⟩
abbrev cX8_become : ByteArray := prog_1_method_7_code
def yX8_become : MethodName := ⟨RX8, "become", "(II)I"⟩
abbrev cX8_as : ByteArray := prog_1_method_8_code
def yX8_as : MethodName := ⟨RX8, "as", "(II)I"⟩
abbrev cX8_lease : ByteArray := prog_1_method_9_code
def yX8_lease : MethodName := ⟨RX8, "lease", "(II)I"⟩
abbrev cX8_purse : ByteArray := prog_1_method_10_code
def yX8_purse : MethodName := ⟨RX8, "purse", "(II)I"⟩
abbrev cX8_pardon : ByteArray := prog_1_method_11_code
def yX8_pardon : MethodName := ⟨RX8, "pardon", "(I)I"⟩
abbrev cX8_feed : ByteArray := prog_1_method_12_code
def yX8_feed : MethodName := ⟨RX8, "feed", "(JI)I"⟩
abbrev cX8_text : ByteArray := prog_1_method_13_code
def yX8_text : MethodName := ⟨RX8, "text", "(I)I"⟩
abbrev cX8_law : ByteArray := prog_1_method_14_code
def yX8_law : MethodName := ⟨RX8, "law", "(IIII)I"⟩
abbrev cX8_nights : ByteArray := prog_1_method_15_code
def yX8_nights : MethodName := ⟨RX8, "nights", "(I)I"⟩
abbrev cX8_loose : ByteArray := prog_1_method_16_code
def yX8_loose : MethodName := ⟨RX8, "loose", "(I)I"⟩
abbrev cX8_then : ByteArray := prog_1_method_17_code
def yX8_then : MethodName := ⟨RX8, "then", "(III)I"⟩
abbrev cX8_often : ByteArray := prog_1_method_18_code
def yX8_often : MethodName := ⟨RX8, "often", "(II)I"⟩
abbrev cX8_whole : ByteArray := prog_1_method_19_code
def yX8_whole : MethodName := ⟨RX8, "whole", "(I)I"⟩
abbrev cX8_stays : ByteArray := prog_1_method_20_code
def yX8_stays : MethodName := ⟨RX8, "stays", "(I)I"⟩
abbrev cX8_clash : ByteArray := prog_1_method_21_code
def yX8_clash : MethodName := ⟨RX8, "clash", "()I"⟩
abbrev cX8_least : ByteArray := prog_1_method_22_code
def yX8_least : MethodName := ⟨RX8, "least", "(I)I"⟩
abbrev cX8_beside : ByteArray := prog_1_method_23_code
def yX8_beside : MethodName := ⟨RX8, "beside", "(I)I"⟩
abbrev cX8_rooms : ByteArray := prog_1_method_24_code
def yX8_rooms : MethodName := ⟨RX8, "rooms", "(II)I"⟩
abbrev cX8_falls : ByteArray := prog_1_method_25_code
def yX8_falls : MethodName := ⟨RX8, "falls", "(II)I"⟩
abbrev cX8_was : ByteArray := prog_1_method_26_code
def yX8_was : MethodName := ⟨RX8, "was", "(I)I"⟩
abbrev cX8_dear : ByteArray := prog_1_method_27_code
def yX8_dear : MethodName := ⟨RX8, "dear", "(I)I"⟩
abbrev cX8_seed : ByteArray := prog_1_method_28_code
def yX8_seed : MethodName := ⟨RX8, "seed", "(I)I"⟩
abbrev cX8_voice : ByteArray := prog_1_method_29_code
def yX8_voice : MethodName := ⟨RX8, "voice", "(III)I"⟩
abbrev cX8_trace : ByteArray := prog_1_method_30_code
def yX8_trace : MethodName := ⟨RX8, "trace", "(I)I"⟩
abbrev cX8_sheet : ByteArray := prog_1_method_31_code
def yX8_sheet : MethodName := ⟨RX8, "sheet", "(III)I"⟩
abbrev cX8_put : ByteArray := prog_1_method_32_code
def yX8_put : MethodName := ⟨RX8, "put", "(III)I"⟩
abbrev cX8_move : ByteArray := prog_1_method_33_code
def yX8_move : MethodName := ⟨RX8, "move", "(IIIII)I"⟩
abbrev cX8_leases : ByteArray := prog_1_method_34_code
def yX8_leases : MethodName := ⟨RX8, "leases", "(I)I"⟩
abbrev cX8_judge : ByteArray := prog_1_method_35_code
def yX8_judge : MethodName := ⟨RX8, "judge", "(I)I"⟩
abbrev cX8_image : ByteArray := prog_1_method_36_code
def yX8_image : MethodName := ⟨RX8, "image", "()I"⟩
abbrev cX8_restore : ByteArray := prog_1_method_37_code
def yX8_restore : MethodName := ⟨RX8, "restore", "()I"⟩
abbrev cX8_tell : ByteArray := prog_1_method_38_code
def yX8_tell : MethodName := ⟨RX8, "tell", "(I)I"⟩
abbrev cX8_check : ByteArray := prog_1_method_39_code
def yX8_check : MethodName := ⟨RX8, "check", "()I"⟩
abbrev cX8_count : ByteArray := prog_1_method_40_code
def yX8_count : MethodName := ⟨RX8, "count", "(I)I"⟩
abbrev cX8_told : ByteArray := prog_1_method_41_code
def yX8_told : MethodName := ⟨RX8, "told", "(I)I"⟩
abbrev cX8_fail : ByteArray := prog_1_method_42_code
def yX8_fail : MethodName := ⟨RX8, "fail", "(I)I"⟩
abbrev cX8_findSheet : ByteArray := prog_1_method_43_code
def yX8_findSheet : MethodName := ⟨RX8, "findSheet", "(I)LMoonRooms$Sheet;"⟩
abbrev cX8_isOutside : ByteArray := prog_1_method_44_code
def yX8_isOutside : MethodName := ⟨RX8, "isOutside", "(III)Z"⟩
abbrev cX8_isNoKind : ByteArray := prog_1_method_45_code
def yX8_isNoKind : MethodName := ⟨RX8, "isNoKind", "(I)Z"⟩
abbrev cX8_isNoUse : ByteArray := prog_1_method_46_code
def yX8_isNoUse : MethodName := ⟨RX8, "isNoUse", "(I)Z"⟩
abbrev cX8_isNoSet : ByteArray := prog_1_method_47_code
def yX8_isNoSet : MethodName := ⟨RX8, "isNoSet", "(I)Z"⟩
abbrev cX8_isUnder : ByteArray := prog_1_method_48_code
def yX8_isUnder : MethodName := ⟨RX8, "isUnder", "(II)Z"⟩
abbrev cX8_litBy : ByteArray := prog_1_method_49_code
def yX8_litBy : MethodName := ⟨RX8, "litBy", "(I)I"⟩
abbrev cX8_besideCells : ByteArray := prog_1_method_50_code
def yX8_besideCells : MethodName := ⟨RX8, "besideCells", "(I)I"⟩
def RX9 : String := "MoonRoomsModel"
def TX9 : u_T := fun k => match k with
  | 0 => ("MoonRoomsModel", "now", "[I", true)
  | 1 => ("MoonRoomsModel", "kept", "[I", true)
  | 2 => ("MoonRoomsModel", "aside", "[I", true)
  | 3 => ("MoonRoomsModel", "images", "I", false)
  | 4 => ("MoonRoomsModel", "errors", "[I", true)
  | 5 => ("MoonRoomsModel", "NAMED", "[Ljava/lang/String;", true)
  | 6 => ("MoonRoomsModel", "at", "I", false)
  | 7 => ("MoonRoomsModel", "open", "I", false)
  | 8 => ("MoonRoomsModel", "use", "I", false)
  | 9 => ("MoonRoomsModel", "isWrong", "Z", false)
  | 10 => ("MoonRoomsModel", "code", "[I", true)
  | 11 => ("MoonRoomsModel", "coded", "I", false)
  | 12 => ("MoonRoomsModel", "named", "[I", true)
  | 13 => ("MoonRoomsModel", "pile", "[I", true)
  | 14 => ("MoonRoomsModel", "wish", "[I", true)
  | 15 => ("MoonRoomsModel", "hasCell", "[I", true)
  | 16 => ("MoonRoomsModel", "met", "I", false)
  | 17 => ("MoonRoomsModel", "trace", "[I", true)
  | 18 => ("MoonRoomsModel", "traced", "I", false)
  | 19 => ("MoonRoomsModel", "kind", "I", false)
  | 20 => ("MoonRoomsModel", "number", "I", false)
  | 21 => ("MoonRoomsModel", "told", "I", false)
  | 22 => ("MoonRoomsModel", "widths", "[I", true)
  | 23 => ("MoonRoomsModel", "sizes", "[I", true)
  | 24 => ("MoonRoomsModel", "numbers", "[I", true)
  | _ => ("MoonRoomsModel", "carried", "[I", true)
def tyX9 : Nat → FieldType := fun k => match k with
  | 0 => .array .int
  | 1 => .array .int
  | 2 => .array .int
  | 3 => .int
  | 4 => .array .int
  | 5 => .array (.object "java/lang/String")
  | 6 => .int
  | 7 => .int
  | 8 => .int
  | 9 => .boolean
  | 10 => .array .int
  | 11 => .int
  | 12 => .array .int
  | 13 => .array .int
  | 14 => .array .int
  | 15 => .array .int
  | 16 => .int
  | 17 => .array .int
  | 18 => .int
  | 19 => .int
  | 20 => .int
  | 21 => .int
  | 22 => .array .int
  | 23 => .array .int
  | 24 => .array .int
  | _ => .array .int
abbrev wsX90 : List Cond := u_ws RX9 TX9 26
theorem nmX9 : ∀ a, a < 26 → ∀ b, b < 26 → a ≠ b → (TX9 a).2.1 ≠ (TX9 b).2.1 := by decide +kernel
theorem tyX9_ok : ∀ k, k < 26 → parseFieldDescriptor (TX9 k).2.2.1 = some (tyX9 k) := by decide +kernel
abbrev cX9_init : ByteArray := prog_11_method_1_code
def yX9_init : MethodName := ⟨RX9, "<init>", "()V"⟩
abbrev cX9_finding : ByteArray := prog_11_method_2_code
def yX9_finding : MethodName := ⟨RX9, "finding", "(I)I"⟩
abbrev cX9_within : ByteArray := prog_11_method_3_code
def yX9_within : MethodName := ⟨RX9, "within", "(III)Z"⟩
abbrev cX9_hasBit : ByteArray := prog_11_method_4_code
def yX9_hasBit : MethodName := ⟨RX9, "hasBit", "(II)Z"⟩
abbrev cX9_bits : ByteArray := prog_11_method_5_code
def yX9_bits : MethodName := ⟨RX9, "bits", "(I)I"⟩
abbrev cX9_held : ByteArray := prog_11_method_6_code
def yX9_held : MethodName := ⟨RX9, "held", "(III)I"⟩
abbrev cX9_copy : ByteArray := prog_11_method_7_code
def yX9_copy : MethodName := ⟨RX9, "copy", "([I[I)V"⟩
abbrev cX9_turn : ByteArray := prog_11_method_8_code
def yX9_turn : MethodName := ⟨RX9, "turn", "(II)I"⟩
abbrev cX9_putBack : ByteArray := prog_11_method_9_code
def yX9_putBack : MethodName := ⟨RX9, "putBack", "(I)I"⟩
abbrev cX9_feed : ByteArray := prog_11_method_10_code
def yX9_feed : MethodName := ⟨RX9, "feed", "(JI)I"⟩
abbrev cX9_here : ByteArray := prog_11_method_11_code
def yX9_here : MethodName := ⟨RX9, "here", "()I"⟩
abbrev cX9_takes : ByteArray := prog_11_method_12_code
def yX9_takes : MethodName := ⟨RX9, "takes", "(I)Z"⟩
abbrev cX9_codes : ByteArray := prog_11_method_13_code
def yX9_codes : MethodName := ⟨RX9, "codes", "(I)V"⟩
abbrev cX9_either : ByteArray := prog_11_method_14_code
def yX9_either : MethodName := ⟨RX9, "either", "()V"⟩
abbrev cX9_both : ByteArray := prog_11_method_15_code
def yX9_both : MethodName := ⟨RX9, "both", "()V"⟩
abbrev cX9_compared : ByteArray := prog_11_method_16_code
def yX9_compared : MethodName := ⟨RX9, "compared", "()V"⟩
abbrev cX9_sum : ByteArray := prog_11_method_17_code
def yX9_sum : MethodName := ⟨RX9, "sum", "()V"⟩
abbrev cX9_product : ByteArray := prog_11_method_18_code
def yX9_product : MethodName := ⟨RX9, "product", "()V"⟩
abbrev cX9_nameOf : ByteArray := prog_11_method_19_code
def yX9_nameOf : MethodName := ⟨RX9, "nameOf", "(I)I"⟩
abbrev cX9_one : ByteArray := prog_11_method_20_code
def yX9_one : MethodName := ⟨RX9, "one", "()V"⟩
abbrev cX9_text : ByteArray := prog_11_method_21_code
def yX9_text : MethodName := ⟨RX9, "text", "(I)I"⟩
abbrev cX9_done : ByteArray := prog_11_method_22_code
def yX9_done : MethodName := ⟨RX9, "done", "(III)I"⟩
abbrev cX9_worked : ByteArray := prog_11_method_23_code
def yX9_worked : MethodName := ⟨RX9, "worked", "(I)I"⟩
abbrev cX9_hasText : ByteArray := prog_11_method_24_code
def yX9_hasText : MethodName := ⟨RX9, "hasText", "(I)Z"⟩
abbrev cX9_given : ByteArray := prog_11_method_25_code
def yX9_given : MethodName := ⟨RX9, "given", "(IIII)I"⟩
abbrev cX9_law : ByteArray := prog_11_method_26_code
def yX9_law : MethodName := ⟨RX9, "law", "(IIII)I"⟩
abbrev cX9_isCell : ByteArray := prog_11_method_27_code
def yX9_isCell : MethodName := ⟨RX9, "isCell", "(I)Z"⟩
abbrev cX9_columnsLit : ByteArray := prog_11_method_28_code
def yX9_columnsLit : MethodName := ⟨RX9, "columnsLit", "(I)I"⟩
abbrev cX9_litBy : ByteArray := prog_11_method_29_code
def yX9_litBy : MethodName := ⟨RX9, "litBy", "(I)I"⟩
abbrev cX9_phase : ByteArray := prog_11_method_30_code
def yX9_phase : MethodName := ⟨RX9, "phase", "()I"⟩
abbrev cX9_litNow : ByteArray := prog_11_method_31_code
def yX9_litNow : MethodName := ⟨RX9, "litNow", "()I"⟩
abbrev cX9_isCloudy : ByteArray := prog_11_method_32_code
def yX9_isCloudy : MethodName := ⟨RX9, "isCloudy", "()Z"⟩
abbrev cX9_seenNow : ByteArray := prog_11_method_33_code
def yX9_seenNow : MethodName := ⟨RX9, "seenNow", "()I"⟩
abbrev cX9_holders : ByteArray := prog_11_method_34_code
def yX9_holders : MethodName := ⟨RX9, "holders", "(I)I"⟩
abbrev cX9_rentOf : ByteArray := prog_11_method_35_code
def yX9_rentOf : MethodName := ⟨RX9, "rentOf", "(I)I"⟩
abbrev cX9_ofCell : ByteArray := prog_11_method_36_code
def yX9_ofCell : MethodName := ⟨RX9, "ofCell", "(II)I"⟩
abbrev cX9_lit : ByteArray := prog_11_method_37_code
def yX9_lit : MethodName := ⟨RX9, "lit", "(I)I"⟩
abbrev cX9_weather : ByteArray := prog_11_method_38_code
def yX9_weather : MethodName := ⟨RX9, "weather", "(I)I"⟩
abbrev cX9_isTenant : ByteArray := prog_11_method_39_code
def yX9_isTenant : MethodName := ⟨RX9, "isTenant", "(I)Z"⟩
abbrev cX9_at : ByteArray := prog_11_method_40_code
def yX9_at : MethodName := ⟨RX9, "at", "(II)I"⟩
abbrev cX9_tenantIs : ByteArray := prog_11_method_41_code
def yX9_tenantIs : MethodName := ⟨RX9, "tenantIs", "(II)I"⟩
abbrev cX9_isOut : ByteArray := prog_11_method_42_code
def yX9_isOut : MethodName := ⟨RX9, "isOut", "(I)Z"⟩
abbrev cX9_isKindM : ByteArray := prog_11_method_43_code
def yX9_isKindM : MethodName := ⟨RX9, "isKindM", "(I)Z"⟩
abbrev cX9_comes : ByteArray := prog_11_method_44_code
def yX9_comes : MethodName := ⟨RX9, "comes", "(I)I"⟩
abbrev cX9_tenant : ByteArray := prog_11_method_45_code
def yX9_tenant : MethodName := ⟨RX9, "tenant", "(I)I"⟩
abbrev cX9_above : ByteArray := prog_11_method_46_code
def yX9_above : MethodName := ⟨RX9, "above", "(I)I"⟩
abbrev cX9_isUnder : ByteArray := prog_11_method_47_code
def yX9_isUnder : MethodName := ⟨RX9, "isUnder", "(II)Z"⟩
abbrev cX9_isOf : ByteArray := prog_11_method_48_code
def yX9_isOf : MethodName := ⟨RX9, "isOf", "(II)Z"⟩
abbrev cX9_looks : ByteArray := prog_11_method_49_code
def yX9_looks : MethodName := ⟨RX9, "looks", "(I)Z"⟩
abbrev cX9_othersIn : ByteArray := prog_11_method_50_code
def yX9_othersIn : MethodName := ⟨RX9, "othersIn", "(I)I"⟩
abbrev cX9_owes : ByteArray := prog_11_method_51_code
def yX9_owes : MethodName := ⟨RX9, "owes", "(I)I"⟩
abbrev cX9_earns : ByteArray := prog_11_method_52_code
def yX9_earns : MethodName := ⟨RX9, "earns", "(I)I"⟩
abbrev cX9_ofTenant : ByteArray := prog_11_method_53_code
def yX9_ofTenant : MethodName := ⟨RX9, "ofTenant", "(II)I"⟩
abbrev cX9_become : ByteArray := prog_11_method_54_code
def yX9_become : MethodName := ⟨RX9, "become", "(II)I"⟩
abbrev cX9_as : ByteArray := prog_11_method_55_code
def yX9_as : MethodName := ⟨RX9, "as", "(II)I"⟩
abbrev cX9_isSet : ByteArray := prog_11_method_56_code
def yX9_isSet : MethodName := ⟨RX9, "isSet", "(I)Z"⟩
abbrev cX9_lease : ByteArray := prog_11_method_57_code
def yX9_lease : MethodName := ⟨RX9, "lease", "(II)I"⟩
abbrev cX9_purse : ByteArray := prog_11_method_58_code
def yX9_purse : MethodName := ⟨RX9, "purse", "(II)I"⟩
abbrev cX9_manyOut : ByteArray := prog_11_method_59_code
def yX9_manyOut : MethodName := ⟨RX9, "manyOut", "()I"⟩
abbrev cX9_pardon : ByteArray := prog_11_method_60_code
def yX9_pardon : MethodName := ⟨RX9, "pardon", "(I)I"⟩
abbrev cX9_pays : ByteArray := prog_11_method_61_code
def yX9_pays : MethodName := ⟨RX9, "pays", "(I)V"⟩
abbrev cX9_night : ByteArray := prog_11_method_62_code
def yX9_night : MethodName := ⟨RX9, "night", "()V"⟩
abbrev cX9_pass : ByteArray := prog_11_method_63_code
def yX9_pass : MethodName := ⟨RX9, "pass", "(I)V"⟩
abbrev cX9_nights : ByteArray := prog_11_method_64_code
def yX9_nights : MethodName := ⟨RX9, "nights", "(I)I"⟩
abbrev cX9_drawn : ByteArray := prog_11_method_65_code
def yX9_drawn : MethodName := ⟨RX9, "drawn", "()I"⟩
abbrev cX9_takesByDraws : ByteArray := prog_11_method_66_code
def yX9_takesByDraws : MethodName := ⟨RX9, "takesByDraws", "()V"⟩
abbrev cX9_loose : ByteArray := prog_11_method_67_code
def yX9_loose : MethodName := ⟨RX9, "loose", "(I)I"⟩
abbrev cX9_then : ByteArray := prog_11_method_68_code
def yX9_then : MethodName := ⟨RX9, "then", "(III)I"⟩
abbrev cX9_often : ByteArray := prog_11_method_69_code
def yX9_often : MethodName := ⟨RX9, "often", "(II)I"⟩
abbrev cX9_whole : ByteArray := prog_11_method_70_code
def yX9_whole : MethodName := ⟨RX9, "whole", "(I)I"⟩
abbrev cX9_stays : ByteArray := prog_11_method_71_code
def yX9_stays : MethodName := ⟨RX9, "stays", "(I)I"⟩
abbrev cX9_clashes : ByteArray := prog_11_method_72_code
def yX9_clashes : MethodName := ⟨RX9, "clashes", "(II)Z"⟩
abbrev cX9_clashBut : ByteArray := prog_11_method_73_code
def yX9_clashBut : MethodName := ⟨RX9, "clashBut", "(I)I"⟩
abbrev cX9_clash : ByteArray := prog_11_method_74_code
def yX9_clash : MethodName := ⟨RX9, "clash", "()I"⟩
abbrev cX9_least : ByteArray := prog_11_method_75_code
def yX9_least : MethodName := ⟨RX9, "least", "(I)I"⟩
abbrev cX9_beside : ByteArray := prog_11_method_76_code
def yX9_beside : MethodName := ⟨RX9, "beside", "(I)I"⟩
abbrev cX9_gets : ByteArray := prog_11_method_77_code
def yX9_gets : MethodName := ⟨RX9, "gets", "(I)Z"⟩
abbrev cX9_mostRooms : ByteArray := prog_11_method_78_code
def yX9_mostRooms : MethodName := ⟨RX9, "mostRooms", "()I"⟩
abbrev cX9_settle : ByteArray := prog_11_method_79_code
def yX9_settle : MethodName := ⟨RX9, "settle", "(I)V"⟩
abbrev cX9_isAlone : ByteArray := prog_11_method_80_code
def yX9_isAlone : MethodName := ⟨RX9, "isAlone", "(I)Z"⟩
abbrev cX9_tellsWishes : ByteArray := prog_11_method_81_code
def yX9_tellsWishes : MethodName := ⟨RX9, "tellsWishes", "(I)Z"⟩
abbrev cX9_rooms : ByteArray := prog_11_method_82_code
def yX9_rooms : MethodName := ⟨RX9, "rooms", "(II)I"⟩
abbrev cX9_falls : ByteArray := prog_11_method_83_code
def yX9_falls : MethodName := ⟨RX9, "falls", "(II)I"⟩
abbrev cX9_was : ByteArray := prog_11_method_84_code
def yX9_was : MethodName := ⟨RX9, "was", "(I)I"⟩
abbrev cX9_dear : ByteArray := prog_11_method_85_code
def yX9_dear : MethodName := ⟨RX9, "dear", "(I)I"⟩
abbrev cX9_seed : ByteArray := prog_11_method_86_code
def yX9_seed : MethodName := ⟨RX9, "seed", "(I)I"⟩
abbrev cX9_runs : ByteArray := prog_11_method_87_code
def yX9_runs : MethodName := ⟨RX9, "runs", "(I)V"⟩
abbrev cX9_looksOf : ByteArray := prog_11_method_88_code
def yX9_looksOf : MethodName := ⟨RX9, "looksOf", "(I)I"⟩
abbrev cX9_paysOf : ByteArray := prog_11_method_89_code
def yX9_paysOf : MethodName := ⟨RX9, "paysOf", "(I)I"⟩
abbrev cX9_holdsOf : ByteArray := prog_11_method_90_code
def yX9_holdsOf : MethodName := ⟨RX9, "holdsOf", "(I)I"⟩
abbrev cX9_plainTells : ByteArray := prog_11_method_91_code
def yX9_plainTells : MethodName := ⟨RX9, "plainTells", "(I)I"⟩
abbrev cX9_tellsOf : ByteArray := prog_11_method_92_code
def yX9_tellsOf : MethodName := ⟨RX9, "tellsOf", "(I)I"⟩
abbrev cX9_voice : ByteArray := prog_11_method_93_code
def yX9_voice : MethodName := ⟨RX9, "voice", "(III)I"⟩
abbrev cX9_trace : ByteArray := prog_11_method_94_code
def yX9_trace : MethodName := ⟨RX9, "trace", "(I)I"⟩
abbrev cX9_isSheet : ByteArray := prog_11_method_95_code
def yX9_isSheet : MethodName := ⟨RX9, "isSheet", "(I)Z"⟩
abbrev cX9_sheet : ByteArray := prog_11_method_96_code
def yX9_sheet : MethodName := ⟨RX9, "sheet", "(III)I"⟩
abbrev cX9_put : ByteArray := prog_11_method_97_code
def yX9_put : MethodName := ⟨RX9, "put", "(III)I"⟩
abbrev cX9_move : ByteArray := prog_11_method_98_code
def yX9_move : MethodName := ⟨RX9, "move", "(IIIII)I"⟩
abbrev cX9_leases : ByteArray := prog_11_method_99_code
def yX9_leases : MethodName := ⟨RX9, "leases", "(I)I"⟩
abbrev cX9_judge : ByteArray := prog_11_method_100_code
def yX9_judge : MethodName := ⟨RX9, "judge", "(I)I"⟩
abbrev cX9_image : ByteArray := prog_11_method_101_code
def yX9_image : MethodName := ⟨RX9, "image", "()I"⟩
abbrev cX9_restore : ByteArray := prog_11_method_102_code
def yX9_restore : MethodName := ⟨RX9, "restore", "()I"⟩
abbrev cX9_tell : ByteArray := prog_11_method_103_code
def yX9_tell : MethodName := ⟨RX9, "tell", "(I)I"⟩
abbrev cX9_check : ByteArray := prog_11_method_104_code
def yX9_check : MethodName := ⟨RX9, "check", "()I"⟩
abbrev cX9_heldNow : ByteArray := prog_11_method_105_code
def yX9_heldNow : MethodName := ⟨RX9, "heldNow", "()I"⟩
abbrev cX9_count : ByteArray := prog_11_method_106_code
def yX9_count : MethodName := ⟨RX9, "count", "(I)I"⟩
abbrev cX9_told : ByteArray := prog_11_method_107_code
def yX9_told : MethodName := ⟨RX9, "told", "(I)I"⟩
def RJ6 : String := "java/lang/Integer"
def TJ6 : u_T := fun k => match k with
  | _ => ("", "", "", false)
def tyJ6 : Nat → FieldType := fun k => match k with
  | _ => .int
abbrev wsJ60 : List Cond := u_ws RJ6 TJ6 0
theorem nmJ6 : ∀ a, a < 0 → ∀ b, b < 0 → a ≠ b → (TJ6 a).2.1 ≠ (TJ6 b).2.1 := by decide +kernel
theorem tyJ6_ok : ∀ k, k < 0 → parseFieldDescriptor (TJ6 k).2.2.1 = some (tyJ6 k) := by decide +kernel
abbrev cJ6_bitCount_0f7a4 : ByteArray := prog_12_method_49_code
def yJ6_bitCount_0f7a4 : MethodName := ⟨RJ6, "bitCount", "(I)I"⟩
def RJ9 : String := "java/lang/Math"
def TJ9 : u_T := fun k => match k with
  | _ => ("", "", "", false)
def tyJ9 : Nat → FieldType := fun k => match k with
  | _ => .int
abbrev wsJ90 : List Cond := u_ws RJ9 TJ9 0
theorem nmJ9 : ∀ a, a < 0 → ∀ b, b < 0 → a ≠ b → (TJ9 a).2.1 ≠ (TJ9 b).2.1 := by decide +kernel
theorem tyJ9_ok : ∀ k, k < 0 → parseFieldDescriptor (TJ9 k).2.2.1 = some (tyJ9 k) := by decide +kernel
abbrev cJ9_max_7cf53 : ByteArray := prog_13_method_65_code
def yJ9_max_7cf53 : MethodName := ⟨RJ9, "max", "(II)I"⟩
abbrev cJ9_min_7cf53 : ByteArray := prog_13_method_69_code
def yJ9_min_7cf53 : MethodName := ⟨RJ9, "min", "(II)I"⟩
def RJ0 : String := "java/lang/String"
def TJ0 : u_T := fun k => match k with
  | _ => ("", "", "", false)
def tyJ0 : Nat → FieldType := fun k => match k with
  | _ => .int
abbrev wsJ00 : List Cond := u_ws RJ0 TJ0 0
theorem nmJ0 : ∀ a, a < 0 → ∀ b, b < 0 → a ≠ b → (TJ0 a).2.1 ≠ (TJ0 b).2.1 := by decide +kernel
theorem tyJ0_ok : ∀ k, k < 0 → parseFieldDescriptor (TJ0 k).2.2.1 = some (tyJ0 k) := by decide +kernel
abbrev cJ0_length_8abf5 : ByteArray := prog_14_method_54_code
def yJ0_length_8abf5 : MethodName := ⟨RJ0, "length", "()I"⟩
abbrev cJ0_charAt_5068e : ByteArray := prog_14_method_56_code
def yJ0_charAt_5068e : MethodName := ⟨RJ0, "charAt", "(I)C"⟩
abbrev cJ0_coder_7d493 : ByteArray := prog_14_method_152_code
def yJ0_coder_7d493 : MethodName := ⟨RJ0, "coder", "()B"⟩
abbrev cJ0_isLatin1_aae02 : ByteArray := prog_14_method_154_code
def yJ0_isLatin1_aae02 : MethodName := ⟨RJ0, "isLatin1", "()Z"⟩
abbrev cJ0_checkIndex_df160 : ByteArray := prog_14_method_155_code
def yJ0_checkIndex_df160 : MethodName := ⟨RJ0, "checkIndex", "(II)V"⟩
def RJ1 : String := "java/lang/StringLatin1"
def TJ1 : u_T := fun k => match k with
  | _ => ("", "", "", false)
def tyJ1 : Nat → FieldType := fun k => match k with
  | _ => .int
abbrev wsJ10 : List Cond := u_ws RJ1 TJ1 0
theorem nmJ1 : ∀ a, a < 0 → ∀ b, b < 0 → a ≠ b → (TJ1 a).2.1 ≠ (TJ1 b).2.1 := by decide +kernel
theorem tyJ1_ok : ∀ k, k < 0 → parseFieldDescriptor (TJ1 k).2.2.1 = some (tyJ1 k) := by decide +kernel
abbrev cJ1_charAt_3b067 : ByteArray := prog_15_method_2_code
def yJ1_charAt_3b067 : MethodName := ⟨RJ1, "charAt", "([BI)C"⟩
def RJ2 : String := "java/lang/StringUTF16"
def TJ2 : u_T := fun k => match k with
  | _ => ("", "", "", false)
def tyJ2 : Nat → FieldType := fun k => match k with
  | _ => .int
abbrev wsJ20 : List Cond := u_ws RJ2 TJ2 0
theorem nmJ2 : ∀ a, a < 0 → ∀ b, b < 0 → a ≠ b → (TJ2 a).2.1 ≠ (TJ2 b).2.1 := by decide +kernel
theorem tyJ2_ok : ∀ k, k < 0 → parseFieldDescriptor (TJ2 k).2.2.1 = some (tyJ2 k) := by decide +kernel
abbrev cJ2_getChar_3b067 : ByteArray := prog_16_method_5_code
def yJ2_getChar_3b067 : MethodName := ⟨RJ2, "getChar", "([BI)C"⟩
abbrev cJ2_length_9d52b : ByteArray := prog_16_method_6_code
def yJ2_length_9d52b : MethodName := ⟨RJ2, "length", "([B)I"⟩
abbrev cJ2_charAt_3b067 : ByteArray := prog_16_method_83_code
def yJ2_charAt_3b067 : MethodName := ⟨RJ2, "charAt", "([BI)C"⟩
abbrev cJ2_checkIndex_2214a : ByteArray := prog_16_method_91_code
def yJ2_checkIndex_2214a : MethodName := ⟨RJ2, "checkIndex", "(I[B)V"⟩
def RJ10 : String := "java/lang/System"
def TJ10 : u_T := fun k => match k with
  | _ => ("", "", "", false)
def tyJ10 : Nat → FieldType := fun k => match k with
  | _ => .int
abbrev wsJ100 : List Cond := u_ws RJ10 TJ10 0
theorem nmJ10 : ∀ a, a < 0 → ∀ b, b < 0 → a ≠ b → (TJ10 a).2.1 ≠ (TJ10 b).2.1 := by decide +kernel
theorem tyJ10_ok : ∀ k, k < 0 → parseFieldDescriptor (TJ10 k).2.2.1 = some (tyJ10 k) := by decide +kernel
def RJ3 : String := "jdk/internal/util/Preconditions"
def TJ3 : u_T := fun k => match k with
  | _ => ("", "", "", false)
def tyJ3 : Nat → FieldType := fun k => match k with
  | _ => .int
abbrev wsJ30 : List Cond := u_ws RJ3 TJ3 0
theorem nmJ3 : ∀ a, a < 0 → ∀ b, b < 0 → a ≠ b → (TJ3 a).2.1 ≠ (TJ3 b).2.1 := by decide +kernel
theorem tyJ3_ok : ∀ k, k < 0 → parseFieldDescriptor (TJ3 k).2.2.1 = some (tyJ3 k) := by decide +kernel
abbrev cJ3_checkIndex_8e157 : ByteArray := prog_18_method_11_code
def yJ3_checkIndex_8e157 : MethodName := ⟨RJ3, "checkIndex", "(IILjava/util/function/BiFunction;)I"⟩
def RL : String := "MoonRoomsLaw"
abbrev cL_law : ByteArray := code
def yL_law : MethodName := ⟨RL, "law", "([I)Z"⟩
abbrev vwCl : List vw_C := [(RX0, TX0, 9), (RX1, TX1, 3), (RX2, TX2, 4), (RX3, TX3, 2), (RX4, TX4, 2), (RX5, TX5, 4), (RX6, TX6, 5), (RX7, TX7, 1), (RX8, TX8, 9), (RX9, TX9, 26)]
end
section
/-! THE OBJECT GRAPH, by places: 0..85 the class's (three houses at 1, 21, 41), 86..101 the check's; 200, 201 the static rows ABOVE, BODIES; 202, 203 the two texts -/
def jShL : List ((Nat × List (Option Nat)) ⊕ (Nat ⊕ (Nat × List (Option Nat)))) := [.inl (8, [some 1, some 21, some 41, some 61, some 66, some 69, some 72, some 85, none]), .inl (0, [none, none, none, none, some 2, some 9, some 11, some 13, some 17]), .inr (.inr (1, [some 3, some 4, some 5, some 6, some 7, some 8])), .inl (6, [none, none, none, none, none]), .inl (6, [none, none, none, none, none]), .inl (6, [none, none, none, none, none]), .inl (6, [none, none, none, none, none]), .inl (6, [none, none, none, none, none]), .inl (6, [none, none, none, none, none]), .inl (3, [some 10, none]), .inr (.inl 50), .inl (3, [some 12, none]), .inr (.inl 20), .inl (1, [none, some 14, some 16]), .inl (3, [some 15, none]), .inr (.inl 50), .inr (.inl 50), .inl (1, [none, some 18, some 20]), .inl (3, [some 19, none]), .inr (.inl 50), .inr (.inl 50), .inl (0, [none, none, none, none, some 22, some 29, some 31, some 33, some 37]), .inr (.inr (1, [some 23, some 24, some 25, some 26, some 27, some 28])), .inl (6, [none, none, none, none, none]), .inl (6, [none, none, none, none, none]), .inl (6, [none, none, none, none, none]), .inl (6, [none, none, none, none, none]), .inl (6, [none, none, none, none, none]), .inl (6, [none, none, none, none, none]), .inl (3, [some 30, none]), .inr (.inl 50), .inl (3, [some 32, none]), .inr (.inl 20), .inl (1, [none, some 34, some 36]), .inl (3, [some 35, none]), .inr (.inl 50), .inr (.inl 50), .inl (1, [none, some 38, some 40]), .inl (3, [some 39, none]), .inr (.inl 50), .inr (.inl 50), .inl (0, [none, none, none, none, some 42, some 49, some 51, some 53, some 57]), .inr (.inr (1, [some 43, some 44, some 45, some 46, some 47, some 48])), .inl (6, [none, none, none, none, none]), .inl (6, [none, none, none, none, none]), .inl (6, [none, none, none, none, none]), .inl (6, [none, none, none, none, none]), .inl (6, [none, none, none, none, none]), .inl (6, [none, none, none, none, none]), .inl (3, [some 50, none]), .inr (.inl 50), .inl (3, [some 52, none]), .inr (.inl 20), .inl (1, [none, some 54, some 56]), .inl (3, [some 55, none]), .inr (.inl 50), .inr (.inl 50), .inl (1, [none, some 58, some 60]), .inl (3, [some 59, none]), .inr (.inl 50), .inr (.inl 50), .inl (2, [some 62, some 64, none, none]), .inl (3, [some 63, none]), .inr (.inl 50), .inl (3, [some 65, none]), .inr (.inl 50), .inl (5, [some 67, none, none, none]), .inl (3, [some 68, none]), .inr (.inl 40), .inl (7, [some 70]), .inl (3, [some 71, none]), .inr (.inl 6), .inr (.inr (2, [some 73, some 76, some 79, some 82])), .inl (4, [some 74, none]), .inl (3, [some 75, none]), .inr (.inl 40), .inl (4, [some 77, none]), .inl (3, [some 78, none]), .inr (.inl 40), .inl (4, [some 80, none]), .inl (3, [some 81, none]), .inr (.inl 40), .inl (4, [some 83, none]), .inl (3, [some 84, none]), .inr (.inl 40), .inr (.inl 6), .inl (9, [some 87, some 88, some 89, none, some 90, some 91, none, none, none, none, some 92, none, some 93, some 94, some 95, some 96, none, some 97, none, none, none, none, some 98, some 99, some 100, some 101]), .inr (.inl 210), .inr (.inl 210), .inr (.inl 210), .inr (.inl 6), .inr (.inr (3, [some 202, some 203])), .inr (.inl 60), .inr (.inl 4), .inr (.inl 60), .inr (.inl 6), .inr (.inl 24), .inr (.inl 40), .inr (.inl 4), .inr (.inl 4), .inr (.inl 160), .inr (.inl 40)]
def jPatL : List (List Bool) := [[false, false, false, false, true, true, true, true, true], [false, true, true], [true, true, false, false], [true, false], [true, false], [true, false, false, false], [false, false, false, false, false], [true], [true, true, true, true, true, true, true, true, false], [true, true, true, false, true, true, false, false, false, false, true, false, true, true, true, true, false, true, false, false, false, false, true, true, true, true]]
def jABOVE : List Int32 := [-1, 0, 0, 0, 1, 2, 3]
def jBODIES : List Int32 := [10, 11, 12, 13, 20, 0, 0, 0, 0, 0, 30, 0, 0, 40, 0, 0, 0, 0, 0, 50, 0, 0, 60, 61, 0, 70, 0, 0]
def cPl : List Nat := List.range 86
def mPl : List Nat := [86, 87, 88, 89, 90, 91, 92, 93, 94, 95, 96, 97, 98, 99, 100, 101]
end
section
/-! THE J LAYER: the machine's judgement over ONE fixed object graph: all references stand still, only ints change.
 jSh p: what the cell at place p is (object of class ci with fields: none an int, some q a reference to place q; an int array of n; an array of references). μ p k: the int at field or index k of place p.
 JF M d Pl emb pc L st μ o: from pc with locals L, stack st, ints μ the method M comes to its end with what o says (emb), if o is some. A row an instruction. -/
abbrev JMu : Type := Nat → Nat → Int32
abbrev JSH : Type := (Nat × List (Option Nat)) ⊕ (Nat ⊕ (Nat × List (Option Nat)))
abbrev JM : Type := MethodName × ByteArray × Nat × Option FieldType × String
def jup (μ : JMu) (p k : Nat) (v : Int32) : JMu := fun q j => if q = p ∧ j = k then v else μ q j
def jSh (p : Nat) : JSH := jShL.getD p (.inr (.inl 0))
def jPat (ci : Nat) : List Bool := jPatL.getD ci []
def jO (Pl : List Nat) (p ci : Nat) : Bool := Pl.contains p && (match jSh p with
  | .inl (c, fs) => c == ci && fs.map Option.isSome == jPat ci
  | _ => false)
def jI (Pl : List Nat) (p : Nat) : Bool := Pl.contains p && (match jSh p with
  | .inr (.inl _) => true
  | _ => false)
def jQr (Pl : List Nat) (p t : Nat) : Bool := Pl.contains p && (match jSh p with
  | .inr (.inr (t', _)) => t' == t
  | _ => false)
def jrf (p k : Nat) : Nat := match jSh p with
  | .inl (_, fs) => ((fs[k]?).getD none).getD 0
  | _ => 0
def jlen (p : Nat) : Nat := match jSh p with
  | .inr (.inl n) => n
  | .inr (.inr (_, l)) => l.length
  | _ => 0
def jel (p i : Nat) : Option Nat := match jSh p with
  | .inr (.inr (_, l)) => (l[i]?).getD none
  | _ => none
def jv (ad : Nat → Nat) (v : Value) : Value := match v with
  | .ref p => .ref (ad p)
  | w => w
def jn (o : Option Nat) : Value := match o with
  | none => .null
  | some p => .ref p
def jfv (ad : Nat → Nat) (μ : JMu) (p k : Nat) (o : Option Nat) : Value := match o with
  | none => .int (μ p k)
  | some q => .ref (ad q)
def jCell (ad : Nat → Nat) (cA : Nat → ClassId) (μ : JMu) (p : Nat) : va_E := match jSh p with
  | .inl (ci, fs) => .inr (ci, fs.mapIdx (fun k o => jfv ad μ p k o))
  | .inr (.inl n) => .inl (cA 0, n, .inl (fun k => μ p k))
  | .inr (.inr (t, l)) => .inl (cA t, l.length, .inr (.inr (.inr (.inr (fun k => ((l[k]?).getD none).map ad)))))
def jW (ad : Nat → Nat) (cA : Nat → ClassId) (μ : JMu) (Pl : List Nat) : va_W := Pl.map (fun p => (ad p, jCell ad cA μ p))
def jty (cA : Nat → ClassId) : List (ClassId × FieldType) := [(cA 0, .int), (cA 1, .object "MoonRooms$Tenant"), (cA 2, .object "MoonRooms$Sheet"), (cA 3, .object "java/lang/String")]
def jR (d : Nat) : Room := { frames := d, cells := 0, slots := 0, locals := 40 * d }
-- the tables' words
def jGood (w : Cond) : Bool := (w.onTables && w.keeps) || (match w with
  | .arrayClass _ => true
  | .fieldLinkNest _ _ _ _ _ _ => true
  | .methodLinkNest _ _ _ _ => true
  | _ => false)
def jWd (w : Cond) : Prop := w ∈ lw_tbl ∧ jGood w = true
def jTW (s : State) : Prop := ∀ w : Cond, jWd w → w.before #[] s = true
theorem jTW.warm {s U : State} (h : jTW s) (hW : s.WarmedH U.vm) : jTW U := by
  intro w hw
  have h1 := h w hw
  have h2 := hw.2
  unfold jGood at h2
  rcases Bool.or_eq_true_iff.mp h2 with h3 | h3
  · exact word_at hW (Or.inl h3) h1
  · cases w <;> first | (cases h3; done) | exact word_at hW (Or.inr ⟨_, rfl⟩) h1 | exact va_Nw.warmF hW h1 | exact va_Nw.warmM hW h1
theorem jTW.args {s : State} (h : jTW s) {w : Cond} (hw : jWd w) (a : Array Value) : w.before a s = true := by
  have h1 := h w hw
  have h2 := hw.2
  unfold jGood at h2
  rcases Bool.or_eq_true_iff.mp h2 with h3 | h3
  · exact word_at (State.WarmedH.refl s) (Or.inl h3) h1
  · cases w <;> first | (cases h3; done) | exact word_at (State.WarmedH.refl s) (Or.inr ⟨_, rfl⟩) h1 | exact va_Nw.use rfl h1
theorem jTW.same {s U : State} (h : jTW s) (e : s.vm = U.vm) (hW : s.WarmedH U.vm) : jTW U := h.warm hW
/-- statics that nobody writes: their places are 200, 201 -/
def jSt (ad : Nat → Nat) (A : Nat → Prop) (s : State) : Prop :=
  (va_Z "MoonRooms" "ABOVE" "[I" (.ref (ad 200)) A s s.heap ∧ va_T .int (ad 200) 7 (fun j => .int (jABOVE.getD j 0)) A s s.heap) ∧
  (va_Z "MoonRooms$Speaker" "BODIES" "[I" (.ref (ad 201)) A s s.heap ∧ va_T .int (ad 201) 28 (fun j => .int (jBODIES.getD j 0)) A s s.heap)
theorem jSt.next {ad : Nat → Nat} {A : Nat → Prop} {s U : State} {H : Heap} {locs : List Loc} (h : jSt ad A s) (hS : va_S A s.heap H locs) (hU : U.heap = H) (hW : s.WarmedH U.vm) : jSt ad A U := by
  have hk : ∀ a : Nat, a < s.heap.size → ¬ A a → U.heap[a]? = s.heap[a]? := fun a h1 h2 => by rw [hU]; exact hS.2.1 a h1 h2
  obtain ⟨⟨h1, h2⟩, h3, h4⟩ := h
  exact ⟨⟨(h1.moved hW.alike).kept hk, (h2.moved hW.alike).kept hk⟩, (h3.moved hW.alike).kept hk, (h4.moved hW.alike).kept hk⟩
theorem jSt.eq {ad : Nat → Nat} {A : Nat → Prop} {s U : State} (h : jSt ad A s) (hU : U.heap = s.heap) (hW : s.vm.Alike U.vm) : jSt ad A U := by
  have hk : ∀ a : Nat, a < s.heap.size → ¬ A a → U.heap[a]? = s.heap[a]? := fun a _ _ => by rw [hU]
  obtain ⟨⟨h1, h2⟩, h3, h4⟩ := h
  exact ⟨⟨(h1.moved hW).kept hk, (h2.moved hW).kept hk⟩, (h3.moved hW).kept hk, (h4.moved hW).kept hk⟩
-- worlds
theorem jW_get {ad : Nat → Nat} {cA : Nat → ClassId} {μ : JMu} {Pl : List Nat} {p k : Nat} (h : Pl[k]? = some p) : (jW ad cA μ Pl)[k]? = some (ad p, jCell ad cA μ p) := by
  unfold jW; rw [List.getElem?_map, h]; rfl
theorem jPl_at {Pl : List Nat} {p : Nat} (h : Pl.contains p = true) : ∃ k : Nat, Pl[k]? = some p := List.getElem?_of_mem (List.contains_iff_mem.mp h)
theorem jW_set {ad : Nat → Nat} {cA : Nat → ClassId} {μ μ' : JMu} {Pl : List Nat} {p k : Nat} {x : va_E} (hn : va_nd Pl = true) (h : Pl[k]? = some p) (hx : x = jCell ad cA μ' p) (ho : ∀ q, q ≠ p → jCell ad cA μ' q = jCell ad cA μ q) : (jW ad cA μ Pl).set k (ad p, x) = jW ad cA μ' Pl := by
  apply List.ext_getElem?
  intro j
  by_cases hj : j = k
  · subst hj
    have hlt : j < (jW ad cA μ Pl).length := (List.getElem?_eq_some_iff.mp (jW_get (ad := ad) (cA := cA) (μ := μ) h)).1
    rw [List.getElem?_set_self hlt, jW_get h, hx]
  · rw [List.getElem?_set_ne (Ne.symm hj)]
    unfold jW
    rw [List.getElem?_map, List.getElem?_map]
    cases hq : Pl[j]? with
    | none => rfl
    | some q =>
      have hne : q ≠ p := by
        intro e
        subst e
        exact hj (va_nd_inj Pl hn j k q hq h)
      simp only [Option.map_some, ho q hne]
theorem jCell_other {ad : Nat → Nat} {cA : Nat → ClassId} {μ : JMu} {p k : Nat} {v : Int32} (q : Nat) (h : q ≠ p) : jCell ad cA (jup μ p k v) q = jCell ad cA μ q := by
  have e : ∀ j, jup μ p k v q j = μ q j := fun j => by simp [jup, h]
  unfold jCell
  cases hs : jSh q with
  | inl x =>
    obtain ⟨ci, fs⟩ := x
    simp only
    congr 2
    apply List.ext_getElem?
    intro j
    simp only [List.getElem?_mapIdx]
    cases fs[j]? with
    | none => rfl
    | some o => cases o <;> simp [jfv, e]
  | inr x =>
    cases x with
    | inl n => simp only [e]
    | inr y => rfl
theorem jW_D {ad : Nat → Nat} {cA : Nat → ClassId} {μ μ' : JMu} {Pl : List Nat} {A : Nat → Prop} (h : va_D A (jW ad cA μ Pl)) : va_D A (jW ad cA μ' Pl) := by
  have key : ∀ (k : Nat) (q : Nat × va_E), (jW ad cA μ' Pl)[k]? = some q → ∃ q', (jW ad cA μ Pl)[k]? = some q' ∧ q'.1 = q.1 := by
    intro k q hq
    unfold jW at hq ⊢
    rw [List.getElem?_map] at hq ⊢
    cases hp : Pl[k]? with
    | none => rw [hp] at hq; cases hq
    | some p => rw [hp] at hq; cases hq; exact ⟨_, rfl, rfl⟩
  refine ⟨fun i j x y hi hj hxy => ?_, fun k q hk => ?_⟩
  · obtain ⟨x', h1, h2⟩ := key i x hi
    obtain ⟨y', h3, h4⟩ := key j y hj
    exact h.1 i j x' y' h1 h3 (h2.trans (hxy.trans h4.symm))
  · obtain ⟨q', h1, h2⟩ := key k q hk
    rw [← h2]
    exact h.2 k q' h1
-- locals by their places
def jHas (ad : Nat → Nat) (ls : Array Slot) (nL : Nat) (L : List (Option Value)) : Prop := ls.size = nL ∧ lv_wf ls ∧ ∀ (i : Nat) (v : Value), L[i]? = some (some v) → ls[i]? = some (.val (jv ad v))
def jLa (ad : Nat → Nat) (L : List (Option Value)) : List (Nat × Value) := (List.range L.length).filterMap (fun i => match L[i]? with
  | some (some v) => some (i, jv ad v)
  | _ => none)
theorem jLa_mem {ad : Nat → Nat} {L : List (Option Value)} {i : Nat} {w : Value} : (i, w) ∈ jLa ad L ↔ ∃ v, L[i]? = some (some v) ∧ w = jv ad v := by
  unfold jLa
  rw [List.mem_filterMap]
  constructor
  · rintro ⟨k, hk, h⟩
    cases hL : L[k]? with
    | none => rw [hL] at h; cases h
    | some o =>
      rw [hL] at h
      cases o with
      | none => cases h
      | some v => cases h; exact ⟨v, hL, rfl⟩
  · rintro ⟨v, hv, rfl⟩
    exact ⟨i, List.mem_range.mpr (List.getElem?_eq_some_iff.mp hv).1, by rw [hv]⟩
theorem jHas.lv {ad : Nat → Nat} {ls : Array Slot} {nL : Nat} {L : List (Option Value)} (h : jHas ad ls nL L) : lv_has ls nL (jLa ad L) := by
  refine ⟨h.1, h.2.1, fun q hq => ?_⟩
  obtain ⟨i, w⟩ := q
  obtain ⟨v, h1, h2⟩ := jLa_mem.mp hq
  rw [h2]
  exact h.2.2 i v h1
/-- no long stands just ahead of a place -/
def jok (L : List (Option Value)) (i : Nat) : Bool := match i with
  | 0 => true
  | j + 1 => match L[j]? with
    | some (some v) => v.category == 1
    | _ => true
theorem jv_cat {ad : Nat → Nat} (v : Value) : (jv ad v).category = v.category := by cases v <;> rfl
theorem jHas.store {ad : Nat → Nat} {ls ls' : Array Slot} {nL i : Nat} {L : List (Option Value)} {v : Value} (hk : jok L i = true) (h : jHas ad ls nL L) (h' : lv_has ls' nL ((i, jv ad v) :: (jLa ad L).filter (fun q => !(q.1 == i) && !(q.1 + 1 == i && q.2.category == 2)))) : jHas ad ls' nL (L.set i (some v)) := by
  refine ⟨h'.1, h'.2.1, fun j w hj => ?_⟩
  by_cases e : j = i
  · subst e
    have hlt : j < L.length := by
      have := (List.getElem?_eq_some_iff.mp hj).1
      simpa using this
    rw [List.getElem?_set_self hlt] at hj
    cases hj
    exact h'.2.2 (j, jv ad v) List.mem_cons_self
  · rw [List.getElem?_set_ne (Ne.symm e)] at hj
    refine h'.2.2 (j, jv ad w) (List.mem_cons_of_mem _ (List.mem_filter.mpr ⟨jLa_mem.mpr ⟨w, hj, rfl⟩, ?_⟩))
    have h2 : ¬ (j + 1 = i ∧ (jv ad w).category = 2) := by
      rintro ⟨q1, q2⟩
      subst q1
      simp only [jok, hj, beq_iff_eq] at hk
      rw [jv_cat] at q2
      omega
    simp only [Bool.and_eq_true, Bool.not_eq_true', beq_eq_false_iff_ne, ne_eq, Bool.and_eq_false_iff]
    refine ⟨e, ?_⟩
    by_cases q1 : j + 1 = i
    · exact Or.inr (fun q2 => h2 ⟨q1, q2⟩)
    · exact Or.inl q1
end
section
-- THE JUDGEMENT
def jQ (D : va_G) (cA : Nat → ClassId) (ad : Nat → Nat) (Pl : List Nat) (A : Nat → Prop) (r : Option Value × JMu) : Array Value → State → Outcome → State → Prop := fun _ st oc t => (oc = .returned (r.1.map (jv ad)) ∧ va_P D vwCl (jW ad cA r.2 Pl) t.heap) ∧ va_F A st t
def JCx (M : JM) (Pl : List Nat) (p : Program) (s : State) (m : MethodId) (meth : Method) (c : Code) (A : Nat → Prop) (D : va_G) (cA : Nat → ClassId) (ad : Nat → Nat) : Prop :=
  (p.tables.exec = Jvm.exec ∧ c.code = M.2.1 ∧ c.maxLocals = M.2.2.1 ∧ s.vm.findClass M.2.2.2.2 = some m.cls) ∧ (meth.sig.returnType = M.2.2.2.1 ∧ meth.locks = false) ∧ jTW s ∧ va_K D vwCl (jty cA) s ∧ (∀ q : Nat, s.heap.size ≤ q → A q) ∧ jSt ad A s ∧ va_nd Pl = true
def JF {α : Type} (M : JM) (d : Nat) (Pl : List Nat) (emb : α → Option Value × JMu) (pc : Nat) (L : List (Option Value)) (st : List Value) (μ : JMu) (o : Option α) : Prop :=
  ∀ (p : Program) (l : Launch) (e : Env) (s : State) (m : MethodId) (args : Array Value) (below : List Frame) (meth : Method) (c : Code) (A : Nat → Prop) (D : va_G) (cA : Nat → ClassId) (ad : Nat → Nat), JCx M Pl p s m meth c A D cA ad →
  ∀ a : α, o = some a → ∀ (H : Heap) (locs : List Loc) (ls : Array Slot), va_P D vwCl (jW ad cA μ Pl) H → va_D A (jW ad cA μ Pl) → va_S A s.heap H locs → jHas ad ls M.2.2.1 L →
  W p l e (jR d) s m args below meth c H locs 0 0 (MQ below (jQ D cA ad Pl A (emb a)) args s 0 0 A) (F0 m pc ls (st.map (jv ad)))
/-- the contract of a method at these arguments and ints: what it gives -/
def JC (M : JM) (d : Nat) (Pl : List Nat) (as : List Value) (μ : JMu) (r : Option Value × JMu) : Prop :=
  ∀ (l : Launch) (D : va_G) (cA : Nat → ClassId) (ad : Nat → Nat) (A : Nat → Prop), va_nd Pl = true →
  Met l M.1 [Cond.code M.1 M.2.1 M.2.2.1 M.2.2.2.1] (jR d) (fun v U => v = (as.map (jv ad)).toArray ∧ (∀ q : Nat, U.heap.size ≤ q → A q) ∧ va_P D vwCl (jW ad cA μ Pl) U.heap ∧ va_D A (jW ad cA μ Pl) ∧ va_K D vwCl (jty cA) U ∧ jTW U ∧ jSt ad A U) (jQ D cA ad Pl A r) 0 0 A
section JR
variable {α : Type} {M : JM} {d : Nat} {Pl : List Nat} {emb : α → Option Value × JMu} {pc : Nat} {L : List (Option Value)} {st : List Value} {μ : JMu} {o : Option α}
theorem JF_none : JF M d Pl emb pc L st μ none := fun _ _ _ _ _ _ _ _ _ _ _ _ _ _ a h => by cases h
theorem JF_chk {c : Prop} [Decidable c] (k : c → JF M d Pl emb pc L st μ o) : JF M d Pl emb pc L st μ (if c then o else none) := by
  by_cases h : c
  · rw [if_pos h]; exact k h
  · rw [if_neg h]; exact JF_none
theorem JF_ite {c : Prop} [Decidable c] {o1 o2 : Option α} (k1 : c → JF M d Pl emb pc L st μ o1) (k2 : ¬ c → JF M d Pl emb pc L st μ o2) : JF M d Pl emb pc L st μ (if c then o1 else o2) := by
  by_cases h : c
  · rw [if_pos h]; exact k1 h
  · rw [if_neg h]; exact k2 h
theorem JF_eq {L2 : List (Option Value)} (h : L = L2) (k : JF M d Pl emb pc L2 st μ o) : JF M d Pl emb pc L st μ o := h ▸ k
theorem J_iconst {n : Int} {v : Int32} (hd : decode M.2.1 pc = .ok (.iconst n, 1)) (hv : Int32.ofInt n = v) (k : JF M d Pl emb (pc + 1) L (.int v :: st) μ o) : JF M d Pl emb pc L (st) μ o :=
  fun p l e s m args below meth c A D cA ad cx a ho H locs ls hP hD hS hl => lv_iconst cx.1.1 cx.1.2.1 hd hv (k p l e s m args below meth c A D cA ad cx a ho H locs ls hP hD hS hl)
theorem J_bipush {n : Int} {v : Int32} (hd : decode M.2.1 pc = .ok (.bipush n, 2)) (hv : (Int8.ofInt n).toInt32 = v) (k : JF M d Pl emb (pc + 2) L (.int v :: st) μ o) : JF M d Pl emb pc L (st) μ o :=
  fun p l e s m args below meth c A D cA ad cx a ho H locs ls hP hD hS hl => lv_bipush cx.1.1 cx.1.2.1 hd hv (k p l e s m args below meth c A D cA ad cx a ho H locs ls hP hD hS hl)
theorem J_sipush {n : Int} {v : Int32} (hd : decode M.2.1 pc = .ok (.sipush n, 3)) (hv : (Int16.ofInt n).toInt32 = v) (k : JF M d Pl emb (pc + 3) L (.int v :: st) μ o) : JF M d Pl emb pc L (st) μ o :=
  fun p l e s m args below meth c A D cA ad cx a ho H locs ls hP hD hS hl => lv_sipush cx.1.1 cx.1.2.1 hd hv (k p l e s m args below meth c A D cA ad cx a ho H locs ls hP hD hS hl)
theorem J_iadd {x y : Int32} (hd : decode M.2.1 pc = .ok (.iadd, 1))  (k : JF M d Pl emb (pc + 1) L (.int (x + y) :: st) μ o) : JF M d Pl emb pc L (.int y :: .int x :: st) μ o :=
  fun p l e s m args below meth c A D cA ad cx a ho H locs ls hP hD hS hl => lv_iadd cx.1.1 cx.1.2.1 hd  (k p l e s m args below meth c A D cA ad cx a ho H locs ls hP hD hS hl)
theorem J_isub {x y : Int32} (hd : decode M.2.1 pc = .ok (.isub, 1))  (k : JF M d Pl emb (pc + 1) L (.int (x - y) :: st) μ o) : JF M d Pl emb pc L (.int y :: .int x :: st) μ o :=
  fun p l e s m args below meth c A D cA ad cx a ho H locs ls hP hD hS hl => lv_isub cx.1.1 cx.1.2.1 hd  (k p l e s m args below meth c A D cA ad cx a ho H locs ls hP hD hS hl)
theorem J_imul {x y : Int32} (hd : decode M.2.1 pc = .ok (.imul, 1))  (k : JF M d Pl emb (pc + 1) L (.int (x * y) :: st) μ o) : JF M d Pl emb pc L (.int y :: .int x :: st) μ o :=
  fun p l e s m args below meth c A D cA ad cx a ho H locs ls hP hD hS hl => lv_imul cx.1.1 cx.1.2.1 hd  (k p l e s m args below meth c A D cA ad cx a ho H locs ls hP hD hS hl)
theorem J_iand {x y : Int32} (hd : decode M.2.1 pc = .ok (.iand, 1))  (k : JF M d Pl emb (pc + 1) L (.int (x &&& y) :: st) μ o) : JF M d Pl emb pc L (.int y :: .int x :: st) μ o :=
  fun p l e s m args below meth c A D cA ad cx a ho H locs ls hP hD hS hl => lv_iand cx.1.1 cx.1.2.1 hd  (k p l e s m args below meth c A D cA ad cx a ho H locs ls hP hD hS hl)
theorem J_ior {x y : Int32} (hd : decode M.2.1 pc = .ok (.ior, 1))  (k : JF M d Pl emb (pc + 1) L (.int (x ||| y) :: st) μ o) : JF M d Pl emb pc L (.int y :: .int x :: st) μ o :=
  fun p l e s m args below meth c A D cA ad cx a ho H locs ls hP hD hS hl => lv_ior cx.1.1 cx.1.2.1 hd  (k p l e s m args below meth c A D cA ad cx a ho H locs ls hP hD hS hl)
theorem J_ixor {x y : Int32} (hd : decode M.2.1 pc = .ok (.ixor, 1))  (k : JF M d Pl emb (pc + 1) L (.int (x ^^^ y) :: st) μ o) : JF M d Pl emb pc L (.int y :: .int x :: st) μ o :=
  fun p l e s m args below meth c A D cA ad cx a ho H locs ls hP hD hS hl => lv_ixor cx.1.1 cx.1.2.1 hd  (k p l e s m args below meth c A D cA ad cx a ho H locs ls hP hD hS hl)
theorem J_ishl {x y : Int32} (hd : decode M.2.1 pc = .ok (.ishl, 1))  (k : JF M d Pl emb (pc + 1) L (.int (x <<< (y &&& 31)) :: st) μ o) : JF M d Pl emb pc L (.int y :: .int x :: st) μ o :=
  fun p l e s m args below meth c A D cA ad cx a ho H locs ls hP hD hS hl => lv_ishl cx.1.1 cx.1.2.1 hd  (k p l e s m args below meth c A D cA ad cx a ho H locs ls hP hD hS hl)
theorem J_ishr {x y : Int32} (hd : decode M.2.1 pc = .ok (.ishr, 1))  (k : JF M d Pl emb (pc + 1) L (.int (x >>> (y &&& 31)) :: st) μ o) : JF M d Pl emb pc L (.int y :: .int x :: st) μ o :=
  fun p l e s m args below meth c A D cA ad cx a ho H locs ls hP hD hS hl => lv_ishr cx.1.1 cx.1.2.1 hd  (k p l e s m args below meth c A D cA ad cx a ho H locs ls hP hD hS hl)
theorem J_iushr {x y : Int32} (hd : decode M.2.1 pc = .ok (.iushr, 1))  (k : JF M d Pl emb (pc + 1) L (.int ((x.toUInt32 >>> (y.toUInt32 &&& Int32.toUInt32 31)).toInt32) :: st) μ o) : JF M d Pl emb pc L (.int y :: .int x :: st) μ o :=
  fun p l e s m args below meth c A D cA ad cx a ho H locs ls hP hD hS hl => lv_iushr cx.1.1 cx.1.2.1 hd rfl (k p l e s m args below meth c A D cA ad cx a ho H locs ls hP hD hS hl)
theorem J_idiv {x y : Int32} (hd : decode M.2.1 pc = .ok (.idiv, 1)) (hne : ¬ y = 0) (k : JF M d Pl emb (pc + 1) L (.int (x / y) :: st) μ o) : JF M d Pl emb pc L (.int y :: .int x :: st) μ o :=
  fun p l e s m args below meth c A D cA ad cx a ho H locs ls hP hD hS hl => lv_idiv cx.1.1 cx.1.2.1 hd hne (k p l e s m args below meth c A D cA ad cx a ho H locs ls hP hD hS hl)
theorem J_irem {x y : Int32} (hd : decode M.2.1 pc = .ok (.irem, 1)) (hne : ¬ y = 0) (k : JF M d Pl emb (pc + 1) L (.int (x - x / y * y) :: st) μ o) : JF M d Pl emb pc L (.int y :: .int x :: st) μ o :=
  fun p l e s m args below meth c A D cA ad cx a ho H locs ls hP hD hS hl => lv_irem cx.1.1 cx.1.2.1 hd hne (k p l e s m args below meth c A D cA ad cx a ho H locs ls hP hD hS hl)
theorem J_ineg {x : Int32} (hd : decode M.2.1 pc = .ok (.ineg, 1))  (k : JF M d Pl emb (pc + 1) L (.int (-x) :: st) μ o) : JF M d Pl emb pc L (.int x :: st) μ o :=
  fun p l e s m args below meth c A D cA ad cx a ho H locs ls hP hD hS hl => lv_ineg cx.1.1 cx.1.2.1 hd  (k p l e s m args below meth c A D cA ad cx a ho H locs ls hP hD hS hl)
theorem J_i2b {x : Int32} (hd : decode M.2.1 pc = .ok (.i2b, 1))  (k : JF M d Pl emb (pc + 1) L (.int (x.toInt8.toInt32) :: st) μ o) : JF M d Pl emb pc L (.int x :: st) μ o :=
  fun p l e s m args below meth c A D cA ad cx a ho H locs ls hP hD hS hl => lv_i2b cx.1.1 cx.1.2.1 hd rfl (k p l e s m args below meth c A D cA ad cx a ho H locs ls hP hD hS hl)
theorem J_i2s {x : Int32} (hd : decode M.2.1 pc = .ok (.i2s, 1))  (k : JF M d Pl emb (pc + 1) L (.int (x.toInt16.toInt32) :: st) μ o) : JF M d Pl emb pc L (.int x :: st) μ o :=
  fun p l e s m args below meth c A D cA ad cx a ho H locs ls hP hD hS hl => lv_i2s cx.1.1 cx.1.2.1 hd rfl (k p l e s m args below meth c A D cA ad cx a ho H locs ls hP hD hS hl)
theorem J_i2l {x : Int32} (hd : decode M.2.1 pc = .ok (.i2l, 1))  (k : JF M d Pl emb (pc + 1) L (.long (x.toInt64) :: st) μ o) : JF M d Pl emb pc L (.int x :: st) μ o :=
  fun p l e s m args below meth c A D cA ad cx a ho H locs ls hP hD hS hl => lv_i2l cx.1.1 cx.1.2.1 hd rfl (k p l e s m args below meth c A D cA ad cx a ho H locs ls hP hD hS hl)
theorem J_l2i {x : Int64} (hd : decode M.2.1 pc = .ok (.l2i, 1))  (k : JF M d Pl emb (pc + 1) L (.int (x.toInt32) :: st) μ o) : JF M d Pl emb pc L (.long x :: st) μ o :=
  fun p l e s m args below meth c A D cA ad cx a ho H locs ls hP hD hS hl => lv_l2i cx.1.1 cx.1.2.1 hd rfl (k p l e s m args below meth c A D cA ad cx a ho H locs ls hP hD hS hl)
theorem J_ladd {x y : Int64} (hd : decode M.2.1 pc = .ok (.ladd, 1))  (k : JF M d Pl emb (pc + 1) L (.long (x + y) :: st) μ o) : JF M d Pl emb pc L (.long y :: .long x :: st) μ o :=
  fun p l e s m args below meth c A D cA ad cx a ho H locs ls hP hD hS hl => lv_ladd cx.1.1 cx.1.2.1 hd  (k p l e s m args below meth c A D cA ad cx a ho H locs ls hP hD hS hl)
theorem J_land {x y : Int64} (hd : decode M.2.1 pc = .ok (.land, 1))  (k : JF M d Pl emb (pc + 1) L (.long (x &&& y) :: st) μ o) : JF M d Pl emb pc L (.long y :: .long x :: st) μ o :=
  fun p l e s m args below meth c A D cA ad cx a ho H locs ls hP hD hS hl => lv_land cx.1.1 cx.1.2.1 hd  (k p l e s m args below meth c A D cA ad cx a ho H locs ls hP hD hS hl)
theorem J_lor {x y : Int64} (hd : decode M.2.1 pc = .ok (.lor, 1))  (k : JF M d Pl emb (pc + 1) L (.long (x ||| y) :: st) μ o) : JF M d Pl emb pc L (.long y :: .long x :: st) μ o :=
  fun p l e s m args below meth c A D cA ad cx a ho H locs ls hP hD hS hl => lv_lor cx.1.1 cx.1.2.1 hd  (k p l e s m args below meth c A D cA ad cx a ho H locs ls hP hD hS hl)
theorem J_lshr {x : Int64} {y : Int32} (hd : decode M.2.1 pc = .ok (.lshr, 1))  (k : JF M d Pl emb (pc + 1) L (.long (x >>> (y.toInt64 &&& 63)) :: st) μ o) : JF M d Pl emb pc L (.int y :: .long x :: st) μ o :=
  fun p l e s m args below meth c A D cA ad cx a ho H locs ls hP hD hS hl => lv_lshr cx.1.1 cx.1.2.1 hd rfl (k p l e s m args below meth c A D cA ad cx a ho H locs ls hP hD hS hl)
theorem J_lshl {x : Int64} {y : Int32} (hd : decode M.2.1 pc = .ok (.lshl, 1))  (k : JF M d Pl emb (pc + 1) L (.long (x <<< (y.toInt64 &&& 63)) :: st) μ o) : JF M d Pl emb pc L (.int y :: .long x :: st) μ o :=
  fun p l e s m args below meth c A D cA ad cx a ho H locs ls hP hD hS hl => lv_lshl cx.1.1 cx.1.2.1 hd rfl (k p l e s m args below meth c A D cA ad cx a ho H locs ls hP hD hS hl)
theorem J_if_eq {x : Int32} {off : Int} {tgt : Nat} {o1 o2 : Option α} (hd : decode M.2.1 pc = .ok (.ifCond .eq off, 3)) (ht : (pc : Int) + off = (tgt : Int)) (kt : x = 0 → JF M d Pl emb tgt L st μ o1) (kf : ¬ (x = 0) → JF M d Pl emb (pc + 3) L st μ o2) : JF M d Pl emb pc L (.int x :: st) μ (if x = 0 then o1 else o2) :=
  JF_ite (fun q p l e s m args below meth c A D cA ad cx a ho H locs ls hP hD hS hl => lv_if_eq cx.1.1 cx.1.2.1 hd ht (fun q2 => kt q2 p l e s m args below meth c A D cA ad cx a ho H locs ls hP hD hS hl) (fun q2 => absurd q q2))
   (fun q p l e s m args below meth c A D cA ad cx a ho H locs ls hP hD hS hl => lv_if_eq cx.1.1 cx.1.2.1 hd ht (fun q2 => absurd q2 q) (fun q2 => kf q2 p l e s m args below meth c A D cA ad cx a ho H locs ls hP hD hS hl))
theorem J_icmp_eq {x y : Int32} {off : Int} {tgt : Nat} {o1 o2 : Option α} (hd : decode M.2.1 pc = .ok (.if_icmp .eq off, 3)) (ht : (pc : Int) + off = (tgt : Int)) (kt : x = y → JF M d Pl emb tgt L st μ o1) (kf : ¬ (x = y) → JF M d Pl emb (pc + 3) L st μ o2) : JF M d Pl emb pc L (.int y :: .int x :: st) μ (if x = y then o1 else o2) :=
  JF_ite (fun q p l e s m args below meth c A D cA ad cx a ho H locs ls hP hD hS hl => lv_icmp_eq cx.1.1 cx.1.2.1 hd ht (fun q2 => kt q2 p l e s m args below meth c A D cA ad cx a ho H locs ls hP hD hS hl) (fun q2 => absurd q q2))
   (fun q p l e s m args below meth c A D cA ad cx a ho H locs ls hP hD hS hl => lv_icmp_eq cx.1.1 cx.1.2.1 hd ht (fun q2 => absurd q2 q) (fun q2 => kf q2 p l e s m args below meth c A D cA ad cx a ho H locs ls hP hD hS hl))
theorem J_if_ne {x : Int32} {off : Int} {tgt : Nat} {o1 o2 : Option α} (hd : decode M.2.1 pc = .ok (.ifCond .ne off, 3)) (ht : (pc : Int) + off = (tgt : Int)) (kf : x = 0 → JF M d Pl emb (pc + 3) L st μ o1) (kt : ¬ (x = 0) → JF M d Pl emb tgt L st μ o2) : JF M d Pl emb pc L (.int x :: st) μ (if x = 0 then o1 else o2) :=
  JF_ite (fun q p l e s m args below meth c A D cA ad cx a ho H locs ls hP hD hS hl => lv_if_ne cx.1.1 cx.1.2.1 hd ht (fun q2 => absurd q q2) (fun q2 => kf q2 p l e s m args below meth c A D cA ad cx a ho H locs ls hP hD hS hl))
   (fun q p l e s m args below meth c A D cA ad cx a ho H locs ls hP hD hS hl => lv_if_ne cx.1.1 cx.1.2.1 hd ht (fun q2 => kt q2 p l e s m args below meth c A D cA ad cx a ho H locs ls hP hD hS hl) (fun q2 => absurd q2 q))
theorem J_icmp_ne {x y : Int32} {off : Int} {tgt : Nat} {o1 o2 : Option α} (hd : decode M.2.1 pc = .ok (.if_icmp .ne off, 3)) (ht : (pc : Int) + off = (tgt : Int)) (kf : x = y → JF M d Pl emb (pc + 3) L st μ o1) (kt : ¬ (x = y) → JF M d Pl emb tgt L st μ o2) : JF M d Pl emb pc L (.int y :: .int x :: st) μ (if x = y then o1 else o2) :=
  JF_ite (fun q p l e s m args below meth c A D cA ad cx a ho H locs ls hP hD hS hl => lv_icmp_ne cx.1.1 cx.1.2.1 hd ht (fun q2 => absurd q q2) (fun q2 => kf q2 p l e s m args below meth c A D cA ad cx a ho H locs ls hP hD hS hl))
   (fun q p l e s m args below meth c A D cA ad cx a ho H locs ls hP hD hS hl => lv_icmp_ne cx.1.1 cx.1.2.1 hd ht (fun q2 => kt q2 p l e s m args below meth c A D cA ad cx a ho H locs ls hP hD hS hl) (fun q2 => absurd q2 q))
theorem J_if_lt {x : Int32} {off : Int} {tgt : Nat} {o1 o2 : Option α} (hd : decode M.2.1 pc = .ok (.ifCond .lt off, 3)) (ht : (pc : Int) + off = (tgt : Int)) (kt : x < 0 → JF M d Pl emb tgt L st μ o1) (kf : ¬ (x < 0) → JF M d Pl emb (pc + 3) L st μ o2) : JF M d Pl emb pc L (.int x :: st) μ (if x < 0 then o1 else o2) :=
  JF_ite (fun q p l e s m args below meth c A D cA ad cx a ho H locs ls hP hD hS hl => lv_if_lt cx.1.1 cx.1.2.1 hd ht (fun q2 => kt q2 p l e s m args below meth c A D cA ad cx a ho H locs ls hP hD hS hl) (fun q2 => absurd q q2))
   (fun q p l e s m args below meth c A D cA ad cx a ho H locs ls hP hD hS hl => lv_if_lt cx.1.1 cx.1.2.1 hd ht (fun q2 => absurd q2 q) (fun q2 => kf q2 p l e s m args below meth c A D cA ad cx a ho H locs ls hP hD hS hl))
theorem J_icmp_lt {x y : Int32} {off : Int} {tgt : Nat} {o1 o2 : Option α} (hd : decode M.2.1 pc = .ok (.if_icmp .lt off, 3)) (ht : (pc : Int) + off = (tgt : Int)) (kt : x < y → JF M d Pl emb tgt L st μ o1) (kf : ¬ (x < y) → JF M d Pl emb (pc + 3) L st μ o2) : JF M d Pl emb pc L (.int y :: .int x :: st) μ (if x < y then o1 else o2) :=
  JF_ite (fun q p l e s m args below meth c A D cA ad cx a ho H locs ls hP hD hS hl => lv_icmp_lt cx.1.1 cx.1.2.1 hd ht (fun q2 => kt q2 p l e s m args below meth c A D cA ad cx a ho H locs ls hP hD hS hl) (fun q2 => absurd q q2))
   (fun q p l e s m args below meth c A D cA ad cx a ho H locs ls hP hD hS hl => lv_icmp_lt cx.1.1 cx.1.2.1 hd ht (fun q2 => absurd q2 q) (fun q2 => kf q2 p l e s m args below meth c A D cA ad cx a ho H locs ls hP hD hS hl))
theorem J_if_ge {x : Int32} {off : Int} {tgt : Nat} {o1 o2 : Option α} (hd : decode M.2.1 pc = .ok (.ifCond .ge off, 3)) (ht : (pc : Int) + off = (tgt : Int)) (kt : 0 ≤ x → JF M d Pl emb tgt L st μ o1) (kf : ¬ (0 ≤ x) → JF M d Pl emb (pc + 3) L st μ o2) : JF M d Pl emb pc L (.int x :: st) μ (if 0 ≤ x then o1 else o2) :=
  JF_ite (fun q p l e s m args below meth c A D cA ad cx a ho H locs ls hP hD hS hl => lv_if_ge cx.1.1 cx.1.2.1 hd ht (fun q2 => kt q2 p l e s m args below meth c A D cA ad cx a ho H locs ls hP hD hS hl) (fun q2 => absurd q q2))
   (fun q p l e s m args below meth c A D cA ad cx a ho H locs ls hP hD hS hl => lv_if_ge cx.1.1 cx.1.2.1 hd ht (fun q2 => absurd q2 q) (fun q2 => kf q2 p l e s m args below meth c A D cA ad cx a ho H locs ls hP hD hS hl))
theorem J_icmp_ge {x y : Int32} {off : Int} {tgt : Nat} {o1 o2 : Option α} (hd : decode M.2.1 pc = .ok (.if_icmp .ge off, 3)) (ht : (pc : Int) + off = (tgt : Int)) (kt : y ≤ x → JF M d Pl emb tgt L st μ o1) (kf : ¬ (y ≤ x) → JF M d Pl emb (pc + 3) L st μ o2) : JF M d Pl emb pc L (.int y :: .int x :: st) μ (if y ≤ x then o1 else o2) :=
  JF_ite (fun q p l e s m args below meth c A D cA ad cx a ho H locs ls hP hD hS hl => lv_icmp_ge cx.1.1 cx.1.2.1 hd ht (fun q2 => kt q2 p l e s m args below meth c A D cA ad cx a ho H locs ls hP hD hS hl) (fun q2 => absurd q q2))
   (fun q p l e s m args below meth c A D cA ad cx a ho H locs ls hP hD hS hl => lv_icmp_ge cx.1.1 cx.1.2.1 hd ht (fun q2 => absurd q2 q) (fun q2 => kf q2 p l e s m args below meth c A D cA ad cx a ho H locs ls hP hD hS hl))
theorem J_if_gt {x : Int32} {off : Int} {tgt : Nat} {o1 o2 : Option α} (hd : decode M.2.1 pc = .ok (.ifCond .gt off, 3)) (ht : (pc : Int) + off = (tgt : Int)) (kt : 0 < x → JF M d Pl emb tgt L st μ o1) (kf : ¬ (0 < x) → JF M d Pl emb (pc + 3) L st μ o2) : JF M d Pl emb pc L (.int x :: st) μ (if 0 < x then o1 else o2) :=
  JF_ite (fun q p l e s m args below meth c A D cA ad cx a ho H locs ls hP hD hS hl => lv_if_gt cx.1.1 cx.1.2.1 hd ht (fun q2 => kt q2 p l e s m args below meth c A D cA ad cx a ho H locs ls hP hD hS hl) (fun q2 => absurd q q2))
   (fun q p l e s m args below meth c A D cA ad cx a ho H locs ls hP hD hS hl => lv_if_gt cx.1.1 cx.1.2.1 hd ht (fun q2 => absurd q2 q) (fun q2 => kf q2 p l e s m args below meth c A D cA ad cx a ho H locs ls hP hD hS hl))
theorem J_icmp_gt {x y : Int32} {off : Int} {tgt : Nat} {o1 o2 : Option α} (hd : decode M.2.1 pc = .ok (.if_icmp .gt off, 3)) (ht : (pc : Int) + off = (tgt : Int)) (kt : y < x → JF M d Pl emb tgt L st μ o1) (kf : ¬ (y < x) → JF M d Pl emb (pc + 3) L st μ o2) : JF M d Pl emb pc L (.int y :: .int x :: st) μ (if y < x then o1 else o2) :=
  JF_ite (fun q p l e s m args below meth c A D cA ad cx a ho H locs ls hP hD hS hl => lv_icmp_gt cx.1.1 cx.1.2.1 hd ht (fun q2 => kt q2 p l e s m args below meth c A D cA ad cx a ho H locs ls hP hD hS hl) (fun q2 => absurd q q2))
   (fun q p l e s m args below meth c A D cA ad cx a ho H locs ls hP hD hS hl => lv_icmp_gt cx.1.1 cx.1.2.1 hd ht (fun q2 => absurd q2 q) (fun q2 => kf q2 p l e s m args below meth c A D cA ad cx a ho H locs ls hP hD hS hl))
theorem J_if_le {x : Int32} {off : Int} {tgt : Nat} {o1 o2 : Option α} (hd : decode M.2.1 pc = .ok (.ifCond .le off, 3)) (ht : (pc : Int) + off = (tgt : Int)) (kt : x ≤ 0 → JF M d Pl emb tgt L st μ o1) (kf : ¬ (x ≤ 0) → JF M d Pl emb (pc + 3) L st μ o2) : JF M d Pl emb pc L (.int x :: st) μ (if x ≤ 0 then o1 else o2) :=
  JF_ite (fun q p l e s m args below meth c A D cA ad cx a ho H locs ls hP hD hS hl => lv_if_le cx.1.1 cx.1.2.1 hd ht (fun q2 => kt q2 p l e s m args below meth c A D cA ad cx a ho H locs ls hP hD hS hl) (fun q2 => absurd q q2))
   (fun q p l e s m args below meth c A D cA ad cx a ho H locs ls hP hD hS hl => lv_if_le cx.1.1 cx.1.2.1 hd ht (fun q2 => absurd q2 q) (fun q2 => kf q2 p l e s m args below meth c A D cA ad cx a ho H locs ls hP hD hS hl))
theorem J_icmp_le {x y : Int32} {off : Int} {tgt : Nat} {o1 o2 : Option α} (hd : decode M.2.1 pc = .ok (.if_icmp .le off, 3)) (ht : (pc : Int) + off = (tgt : Int)) (kt : x ≤ y → JF M d Pl emb tgt L st μ o1) (kf : ¬ (x ≤ y) → JF M d Pl emb (pc + 3) L st μ o2) : JF M d Pl emb pc L (.int y :: .int x :: st) μ (if x ≤ y then o1 else o2) :=
  JF_ite (fun q p l e s m args below meth c A D cA ad cx a ho H locs ls hP hD hS hl => lv_icmp_le cx.1.1 cx.1.2.1 hd ht (fun q2 => kt q2 p l e s m args below meth c A D cA ad cx a ho H locs ls hP hD hS hl) (fun q2 => absurd q q2))
   (fun q p l e s m args below meth c A D cA ad cx a ho H locs ls hP hD hS hl => lv_icmp_le cx.1.1 cx.1.2.1 hd ht (fun q2 => absurd q2 q) (fun q2 => kf q2 p l e s m args below meth c A D cA ad cx a ho H locs ls hP hD hS hl))
theorem J_iload {i : Nat} {x : Int32} (hd : decode M.2.1 pc = .ok (.iload i, 2)) (hL : L[i]? = some (some (.int x))) (k : JF M d Pl emb (pc + 2) L (.int x :: st) μ o) : JF M d Pl emb pc L st μ o :=
  fun p l e s m args below meth c A D cA ad cx a ho H locs ls hP hD hS hl => lv_iload cx.1.1 cx.1.2.1 hd (hl.2.2 i _ hL) (k p l e s m args below meth c A D cA ad cx a ho H locs ls hP hD hS hl)
theorem J_iload_n {i : Fin 4} {x : Int32} (hd : decode M.2.1 pc = .ok (.iload_n i, 1)) (hL : L[(i : Nat)]? = some (some (.int x))) (k : JF M d Pl emb (pc + 1) L (.int x :: st) μ o) : JF M d Pl emb pc L st μ o :=
  fun p l e s m args below meth c A D cA ad cx a ho H locs ls hP hD hS hl => lv_iload_n cx.1.1 cx.1.2.1 hd rfl (hl.2.2 i _ hL) (k p l e s m args below meth c A D cA ad cx a ho H locs ls hP hD hS hl)
theorem J_lload_n {i : Fin 4} {x : Int64} (hd : decode M.2.1 pc = .ok (.lload_n i, 1)) (hL : L[(i : Nat)]? = some (some (.long x))) (k : JF M d Pl emb (pc + 1) L (.long x :: st) μ o) : JF M d Pl emb pc L st μ o :=
  fun p l e s m args below meth c A D cA ad cx a ho H locs ls hP hD hS hl => lv_lload_n cx.1.1 cx.1.2.1 hd rfl (hl.2.2 i _ hL) (k p l e s m args below meth c A D cA ad cx a ho H locs ls hP hD hS hl)
theorem J_aload {i : Nat} {x : Nat} (hd : decode M.2.1 pc = .ok (.aload i, 2)) (hL : L[i]? = some (some (.ref x))) (k : JF M d Pl emb (pc + 2) L (.ref x :: st) μ o) : JF M d Pl emb pc L st μ o :=
  fun p l e s m args below meth c A D cA ad cx a ho H locs ls hP hD hS hl => lv_aload cx.1.1 cx.1.2.1 hd (hl.2.2 i _ hL) (k p l e s m args below meth c A D cA ad cx a ho H locs ls hP hD hS hl)
theorem J_aload_n {i : Fin 4} {x : Nat} (hd : decode M.2.1 pc = .ok (.aload_n i, 1)) (hL : L[(i : Nat)]? = some (some (.ref x))) (k : JF M d Pl emb (pc + 1) L (.ref x :: st) μ o) : JF M d Pl emb pc L st μ o :=
  fun p l e s m args below meth c A D cA ad cx a ho H locs ls hP hD hS hl => lv_aload_n cx.1.1 cx.1.2.1 hd rfl (hl.2.2 i _ hL) (k p l e s m args below meth c A D cA ad cx a ho H locs ls hP hD hS hl)
theorem J_aloadQ {i : Nat} {x : Option Nat} (hd : decode M.2.1 pc = .ok (.aload i, 2)) (hL : L[i]? = some (some (jn x))) (k : JF M d Pl emb (pc + 2) L (jn x :: st) μ o) : JF M d Pl emb pc L st μ o :=
  fun p l e s m args below meth c A D cA ad cx a ho H locs ls hP hD hS hl => by
    have hk := k p l e s m args below meth c A D cA ad cx a ho H locs ls hP hD hS hl
    have hv := hl.2.2 i _ hL
    cases x with
    | none => exact lv_aloadN cx.1.1 cx.1.2.1 hd hv hk
    | some y => exact lv_aload cx.1.1 cx.1.2.1 hd hv hk
theorem J_aload_nQ {i : Fin 4} {x : Option Nat} (hd : decode M.2.1 pc = .ok (.aload_n i, 1)) (hL : L[(i : Nat)]? = some (some (jn x))) (k : JF M d Pl emb (pc + 1) L (jn x :: st) μ o) : JF M d Pl emb pc L st μ o :=
  fun p l e s m args below meth c A D cA ad cx a ho H locs ls hP hD hS hl => by
    have hk := k p l e s m args below meth c A D cA ad cx a ho H locs ls hP hD hS hl
    have hv := hl.2.2 i _ hL
    cases x with
    | none => exact lv_aload_nN cx.1.1 cx.1.2.1 hd rfl hv hk
    | some y => exact lv_aload_n cx.1.1 cx.1.2.1 hd rfl hv hk
theorem J_istore {i : Nat} {x : Int32} (hd : decode M.2.1 pc = .ok (.istore i, 2)) (hn : i < M.2.2.1) (hk : jok L i = true) (k : JF M d Pl emb (pc + 2) (L.set i (some (.int x))) st μ o) : JF M d Pl emb pc L (.int x :: st) μ o :=
  fun p l e s m args below meth c A D cA ad cx a ho H locs ls hP hD hS hl => lv_istore cx.1.1 cx.1.2.1 hd hl.lv hn rfl (fun ls' h' => k p l e s m args below meth c A D cA ad cx a ho H locs ls' hP hD hS (hl.store hk h'))
theorem J_istore_n {i : Fin 4} {x : Int32} (hd : decode M.2.1 pc = .ok (.istore_n i, 1)) (hn : (i : Nat) < M.2.2.1) (hk : jok L i = true) (k : JF M d Pl emb (pc + 1) (L.set i (some (.int x))) st μ o) : JF M d Pl emb pc L (.int x :: st) μ o :=
  fun p l e s m args below meth c A D cA ad cx a ho H locs ls hP hD hS hl => lv_istore_n cx.1.1 cx.1.2.1 hd rfl hl.lv hn rfl (fun ls' h' => k p l e s m args below meth c A D cA ad cx a ho H locs ls' hP hD hS (hl.store hk h'))
theorem J_astore {i : Nat} {x : Nat} (hd : decode M.2.1 pc = .ok (.astore i, 2)) (hn : i < M.2.2.1) (hk : jok L i = true) (k : JF M d Pl emb (pc + 2) (L.set i (some (.ref x))) st μ o) : JF M d Pl emb pc L (.ref x :: st) μ o :=
  fun p l e s m args below meth c A D cA ad cx a ho H locs ls hP hD hS hl => lv_astore cx.1.1 cx.1.2.1 hd hl.lv hn rfl (fun ls' h' => k p l e s m args below meth c A D cA ad cx a ho H locs ls' hP hD hS (hl.store (v := .ref x) hk h'))
theorem J_astore_n {i : Fin 4} {x : Nat} (hd : decode M.2.1 pc = .ok (.astore_n i, 1)) (hn : (i : Nat) < M.2.2.1) (hk : jok L i = true) (k : JF M d Pl emb (pc + 1) (L.set i (some (.ref x))) st μ o) : JF M d Pl emb pc L (.ref x :: st) μ o :=
  fun p l e s m args below meth c A D cA ad cx a ho H locs ls hP hD hS hl => lv_astore_n cx.1.1 cx.1.2.1 hd rfl hl.lv hn rfl (fun ls' h' => k p l e s m args below meth c A D cA ad cx a ho H locs ls' hP hD hS (hl.store (v := .ref x) hk h'))
theorem J_astoreQ {i : Nat} {x : Option Nat} (hd : decode M.2.1 pc = .ok (.astore i, 2)) (hn : i < M.2.2.1) (hk : jok L i = true) (k : JF M d Pl emb (pc + 2) (L.set i (some (jn x))) st μ o) : JF M d Pl emb pc L (jn x :: st) μ o :=
  fun p l e s m args below meth c A D cA ad cx a ho H locs ls hP hD hS hl => by
    cases x with
    | none => exact lv_astoreN cx.1.1 cx.1.2.1 hd hl.lv hn rfl (fun ls' h' => k p l e s m args below meth c A D cA ad cx a ho H locs ls' hP hD hS (hl.store (v := .null) hk h'))
    | some y => exact lv_astore cx.1.1 cx.1.2.1 hd hl.lv hn rfl (fun ls' h' => k p l e s m args below meth c A D cA ad cx a ho H locs ls' hP hD hS (hl.store (v := .ref y) hk h'))
theorem J_astore_nQ {i : Fin 4} {x : Option Nat} (hd : decode M.2.1 pc = .ok (.astore_n i, 1)) (hn : (i : Nat) < M.2.2.1) (hk : jok L i = true) (k : JF M d Pl emb (pc + 1) (L.set i (some (jn x))) st μ o) : JF M d Pl emb pc L (jn x :: st) μ o :=
  fun p l e s m args below meth c A D cA ad cx a ho H locs ls hP hD hS hl => by
    cases x with
    | none => exact lv_astore_nN cx.1.1 cx.1.2.1 hd rfl hl.lv hn rfl (fun ls' h' => k p l e s m args below meth c A D cA ad cx a ho H locs ls' hP hD hS (hl.store (v := .null) hk h'))
    | some y => exact lv_astore_n cx.1.1 cx.1.2.1 hd rfl hl.lv hn rfl (fun ls' h' => k p l e s m args below meth c A D cA ad cx a ho H locs ls' hP hD hS (hl.store (v := .ref y) hk h'))
theorem J_iinc {i : Nat} {n : Int} {x c0 : Int32} (hd : decode M.2.1 pc = .ok (.iinc i n, 3)) (hL : L[i]? = some (some (.int x))) (hv : Int32.ofInt n = c0) (hn : i < M.2.2.1) (hk : jok L i = true) (k : JF M d Pl emb (pc + 3) (L.set i (some (.int (x + c0)))) st μ o) : JF M d Pl emb pc L st μ o :=
  fun p l e s m args below meth c A D cA ad cx a ho H locs ls hP hD hS hl => by
    obtain ⟨j, hj⟩ := List.getElem?_of_mem (jLa_mem.mpr ⟨_, hL, rfl⟩ : (i, jv ad (.int x)) ∈ jLa ad L)
    exact lv_iinc (v := x + c0) cx.1.1 cx.1.2.1 hd hl.lv hj (by rw [hv]) hn rfl (fun ls' h' => k p l e s m args below meth c A D cA ad cx a ho H locs ls' hP hD hS (hl.store (v := .int (x + c0)) hk h'))
theorem J_goto {off : Int} {tgt : Nat} (hd : decode M.2.1 pc = .ok (.goto off, 3)) (ht : (pc : Int) + off = (tgt : Int)) (k : JF M d Pl emb tgt L st μ o) : JF M d Pl emb pc L st μ o :=
  fun p l e s m args below meth c A D cA ad cx a ho H locs ls hP hD hS hl => lv_goto cx.1.1 cx.1.2.1 hd ht (k p l e s m args below meth c A D cA ad cx a ho H locs ls hP hD hS hl)
theorem J_ifnull0 {off : Int} {tgt : Nat} (hd : decode M.2.1 pc = .ok (.ifnull off, 3)) (ht : (pc : Int) + off = (tgt : Int)) (k : JF M d Pl emb tgt L st μ o) : JF M d Pl emb pc L (.null :: st) μ o :=
  fun p l e s m args below meth c A D cA ad cx a ho H locs ls hP hD hS hl => lv_ifnullN cx.1.1 cx.1.2.1 hd ht (k p l e s m args below meth c A D cA ad cx a ho H locs ls hP hD hS hl)
theorem J_ifnull1 {off : Int} {x : Nat} (hd : decode M.2.1 pc = .ok (.ifnull off, 3)) (k : JF M d Pl emb (pc + 3) L st μ o) : JF M d Pl emb pc L (.ref x :: st) μ o :=
  fun p l e s m args below meth c A D cA ad cx a ho H locs ls hP hD hS hl => lv_ifnull cx.1.1 cx.1.2.1 hd (k p l e s m args below meth c A D cA ad cx a ho H locs ls hP hD hS hl)
theorem J_ifnonnull0 {off : Int} (hd : decode M.2.1 pc = .ok (.ifnonnull off, 3)) (k : JF M d Pl emb (pc + 3) L st μ o) : JF M d Pl emb pc L (.null :: st) μ o :=
  fun p l e s m args below meth c A D cA ad cx a ho H locs ls hP hD hS hl => lv_ifnonnullN cx.1.1 cx.1.2.1 hd (k p l e s m args below meth c A D cA ad cx a ho H locs ls hP hD hS hl)
theorem J_ifnonnull1 {off : Int} {tgt x : Nat} (hd : decode M.2.1 pc = .ok (.ifnonnull off, 3)) (ht : (pc : Int) + off = (tgt : Int)) (k : JF M d Pl emb tgt L st μ o) : JF M d Pl emb pc L (.ref x :: st) μ o :=
  fun p l e s m args below meth c A D cA ad cx a ho H locs ls hP hD hS hl => lv_ifnonnull cx.1.1 cx.1.2.1 hd ht (k p l e s m args below meth c A D cA ad cx a ho H locs ls hP hD hS hl)
theorem J_null (hd : decode M.2.1 pc = .ok (.aconst_null, 1)) (k : JF M d Pl emb (pc + 1) L (.null :: st) μ o) : JF M d Pl emb pc L st μ o :=
  fun p l e s m args below meth c A D cA ad cx a ho H locs ls hP hD hS hl => lv_null cx.1.1 cx.1.2.1 hd (k p l e s m args below meth c A D cA ad cx a ho H locs ls hP hD hS hl)
theorem J_ldc {i : Nat} {v : Int32} (hd : decode M.2.1 pc = .ok (.ldc i, 2)) (hw : jWd (.constant M.2.2.2.2 i v)) (k : JF M d Pl emb (pc + 2) L (.int v :: st) μ o) : JF M d Pl emb pc L st μ o :=
  fun p l e s m args below meth c A D cA ad cx a ho H locs ls hP hD hS hl => lv_ldc cx.1.1 cx.1.2.1 cx.1.2.2.2 (cx.2.2.1.args hw _) hd (k p l e s m args below meth c A D cA ad cx a ho H locs ls hP hD hS hl)
theorem J_ldcw {i : Nat} {v : Int32} (hd : decode M.2.1 pc = .ok (.ldc_w i, 3)) (hw : jWd (.constant M.2.2.2.2 i v)) (k : JF M d Pl emb (pc + 3) L (.int v :: st) μ o) : JF M d Pl emb pc L st μ o :=
  fun p l e s m args below meth c A D cA ad cx a ho H locs ls hP hD hS hl => lv_ldcw cx.1.1 cx.1.2.1 cx.1.2.2.2 (cx.2.2.1.args hw _) hd (k p l e s m args below meth c A D cA ad cx a ho H locs ls hP hD hS hl)
theorem J_ldc2 {i : Nat} {v : Int64} (hd : decode M.2.1 pc = .ok (.ldc2_w i, 3)) (hw : jWd (.constantLong M.2.2.2.2 i v)) (k : JF M d Pl emb (pc + 3) L (.long v :: st) μ o) : JF M d Pl emb pc L st μ o :=
  fun p l e s m args below meth c A D cA ad cx a ho H locs ls hP hD hS hl => lv_ldc2 cx.1.1 cx.1.2.1 cx.1.2.2.2 (cx.2.2.1.args hw _) hd (k p l e s m args below meth c A D cA ad cx a ho H locs ls hP hD hS hl)
theorem J_dup {va : Value} (hd : decode M.2.1 pc = .ok (.dup, 1)) (hc : va.category = 1) (k : JF M d Pl emb (pc + 1) L (va :: va :: st) μ o) : JF M d Pl emb pc L (va :: st) μ o :=
  fun p l e s m args below meth c A D cA ad cx a ho H locs ls hP hD hS hl => lv_dup cx.1.1 cx.1.2.1 hd (by rw [jv_cat]; exact hc) (k p l e s m args below meth c A D cA ad cx a ho H locs ls hP hD hS hl)
theorem J_pop {va : Value} (hd : decode M.2.1 pc = .ok (.pop, 1)) (hc : va.category = 1) (k : JF M d Pl emb (pc + 1) L st μ o) : JF M d Pl emb pc L (va :: st) μ o :=
  fun p l e s m args below meth c A D cA ad cx a ho H locs ls hP hD hS hl => lv_pop cx.1.1 cx.1.2.1 hd (by rw [jv_cat]; exact hc) (k p l e s m args below meth c A D cA ad cx a ho H locs ls hP hD hS hl)
theorem J_dup2 {va vb : Value} (hd : decode M.2.1 pc = .ok (.dup2, 1)) (hc : va.category = 1) (hc2 : vb.category = 1) (k : JF M d Pl emb (pc + 1) L (va :: vb :: va :: vb :: st) μ o) : JF M d Pl emb pc L (va :: vb :: st) μ o :=
  fun p l e s m args below meth c A D cA ad cx a ho H locs ls hP hD hS hl => lv_dup2_11 cx.1.1 cx.1.2.1 hd (by rw [jv_cat]; exact hc) (by rw [jv_cat]; exact hc2) (k p l e s m args below meth c A D cA ad cx a ho H locs ls hP hD hS hl)
theorem J_lcmp {x y : Int64} (hd : decode M.2.1 pc = .ok (.lcmp, 1)) (k : JF M d Pl emb (pc + 1) L (.int (lg_cmp x y) :: st) μ o) : JF M d Pl emb pc L (.long y :: .long x :: st) μ o :=
  fun p l e s m args below meth c A D cA ad cx a ho H locs ls hP hD hS hl => W.lcmp cx.1.1 cx.1.2.1 hd (k p l e s m args below meth c A D cA ad cx a ho H locs ls hP hD hS hl)
-- switches, at a case
theorem J_tabIn {dflt lo hi : Int} {offs : Array Int} {len : Nat} {x : Int32} {off : Int} {tgt : Nat} (y : Int32) (hd : decode M.2.1 pc = .ok (.tableswitch dflt lo hi offs, len)) (hx : x = y) (h1 : ¬ y.toInt < lo) (h2 : ¬ hi < y.toInt) (ho : offs[(y.toInt - lo).toNat]? = some off) (ht : (pc : Int) + off = (tgt : Int)) (k : JF M d Pl emb tgt L st μ o) : JF M d Pl emb pc L (.int x :: st) μ o :=
  fun p l e s m args below meth c A D cA ad cx a ho2 H locs ls hP hD hS hl => by subst hx; exact lv_tableIn cx.1.1 cx.1.2.1 hd h1 h2 ho ht (k p l e s m args below meth c A D cA ad cx a ho2 H locs ls hP hD hS hl)
theorem J_tabOut {dflt lo hi : Int} {offs : Array Int} {len : Nat} {x : Int32} {tgt : Nat} (hd : decode M.2.1 pc = .ok (.tableswitch dflt lo hi offs, len)) (h : x.toInt < lo ∨ hi < x.toInt) (ht : (pc : Int) + dflt = (tgt : Int)) (k : JF M d Pl emb tgt L st μ o) : JF M d Pl emb pc L (.int x :: st) μ o :=
  fun p l e s m args below meth c A D cA ad cx a ho2 H locs ls hP hD hS hl => lv_tableOut cx.1.1 cx.1.2.1 hd h ht (k p l e s m args below meth c A D cA ad cx a ho2 H locs ls hP hD hS hl)
theorem J_look {dflt : Int} {ps : Array (Int × Int)} {len : Nat} {x : Int32} {off : Int} {tgt : Nat} (hd : decode M.2.1 pc = .ok (.lookupswitch dflt ps, len)) (hp : (ps.toList.zip (ps.toList.drop 1)).all (fun (a, next) => a.1 < next.1) = true) (ho : Op.lookupswitch.offset ps.toList dflt x.toInt = off) (ht : (pc : Int) + off = (tgt : Int)) (k : JF M d Pl emb tgt L st μ o) : JF M d Pl emb pc L (.int x :: st) μ o :=
  fun p l e s m args below meth c A D cA ad cx a ho2 H locs ls hP hD hS hl => lv_lookup cx.1.1 cx.1.2.1 hd hp ho ht (k p l e s m args below meth c A D cA ad cx a ho2 H locs ls hP hD hS hl)
-- the end
theorem J_iret {v : Int32} {a : α} (hd : decode M.2.1 pc = .ok (.ireturn, 1)) (hr : M.2.2.2.1 = some .int) (he : emb a = (some (.int v), μ)) : JF M d Pl emb pc L [.int v] μ (some a) :=
  fun p l e s m args below meth c A D cA ad cx a' ho H locs ls hP hD hS hl => by
    cases ho
    exact W.iret cx.1.1 cx.1.2.1 (cx.2.1.1.trans hr) (fun t ht hW => ⟨⟨by rw [he]; rfl, by rw [he, ht]; exact hP⟩, hS.F ht⟩) hS.2.2 hd cx.2.1.2
theorem J_zret {v : Int32} {a : α} (hd : decode M.2.1 pc = .ok (.ireturn, 1)) (hr : M.2.2.2.1 = some .boolean) (hv : v = 0 ∨ v = 1) (he : emb a = (some (.int v), μ)) : JF M d Pl emb pc L [.int v] μ (some a) :=
  fun p l e s m args below meth c A D cA ad cx a' ho H locs ls hP hD hS hl => by
    cases ho
    exact W.zret cx.1.1 cx.1.2.1 (cx.2.1.1.trans hr) (by rcases hv with rfl | rfl <;> rfl) (fun t ht hW => ⟨⟨by rw [he]; rfl, by rw [he, ht]; exact hP⟩, hS.F ht⟩) hS.2.2 hd cx.2.1.2
theorem J_vret {a : α} (hd : decode M.2.1 pc = .ok (.return_, 1)) (hr : M.2.2.2.1 = none) (he : emb a = (none, μ)) : JF M d Pl emb pc L [] μ (some a) :=
  fun p l e s m args below meth c A D cA ad cx a' ho H locs ls hP hD hS hl => by
    cases ho
    exact W.vret cx.1.1 cx.1.2.1 (cx.2.1.1.trans hr) (fun t ht hW => ⟨⟨by rw [he]; rfl, by rw [he, ht]; exact hP⟩, hS.F ht⟩) hS.2.2 hd cx.2.1.2
theorem J_aret {v : Option Nat} {a : α} {rt : String} (hd : decode M.2.1 pc = .ok (.areturn, 1)) (hr : M.2.2.2.1 = some (.object rt)) (he : emb a = (some (jn v), μ)) : JF M d Pl emb pc L [jn v] μ (some a) :=
  fun p l e s m args below meth c A D cA ad cx a' ho H locs ls hP hD hS hl => by
    cases ho
    exact W.aret (v := jv ad (jn v)) cx.1.1 cx.1.2.1 (cx.2.1.1.trans hr) (Or.inl ⟨_, rfl⟩) (by cases v with | none => exact Or.inl rfl | some y => exact Or.inr ⟨_, rfl⟩) (fun t ht hW => ⟨⟨by rw [he]; rfl, by rw [he, ht]; exact hP⟩, hS.F ht⟩) hS.2.2 hd cx.2.1.2
end JR
end
section
section JH
-- the cell at a place, looked up
theorem jO_spec {Pl : List Nat} {p ci : Nat} (h : jO Pl p ci = true) : ∃ (q : Nat) (fs : List (Option Nat)), Pl[q]? = some p ∧ jSh p = .inl (ci, fs) ∧ fs.map Option.isSome = jPat ci := by
  unfold jO at h
  rw [Bool.and_eq_true] at h
  obtain ⟨q, hq⟩ := jPl_at h.1
  have h2 := h.2
  cases hs : jSh p with
  | inl x =>
    obtain ⟨c, fs⟩ := x
    rw [hs] at h2
    simp only [Bool.and_eq_true, beq_iff_eq] at h2
    exact ⟨q, fs, hq, by rw [h2.1], h2.2⟩
  | inr x => rw [hs] at h2; cases h2
theorem jI_spec {Pl : List Nat} {p : Nat} (h : jI Pl p = true) : ∃ q : Nat, Pl[q]? = some p ∧ jSh p = .inr (.inl (jlen p)) := by
  unfold jI at h
  rw [Bool.and_eq_true] at h
  obtain ⟨q, hq⟩ := jPl_at h.1
  have h2 := h.2
  refine ⟨q, hq, ?_⟩
  unfold jlen
  cases hs : jSh p with
  | inl x => rw [hs] at h2; cases h2
  | inr x =>
    cases x with
    | inl n => rfl
    | inr y => rw [hs] at h2; cases h2
theorem jQr_spec {Pl : List Nat} {p t : Nat} (h : jQr Pl p t = true) : ∃ (q : Nat) (l : List (Option Nat)), Pl[q]? = some p ∧ jSh p = .inr (.inr (t, l)) := by
  unfold jQr at h
  rw [Bool.and_eq_true] at h
  obtain ⟨q, hq⟩ := jPl_at h.1
  have h2 := h.2
  cases hs : jSh p with
  | inl x => rw [hs] at h2; cases h2
  | inr x =>
    cases x with
    | inl n => rw [hs] at h2; cases h2
    | inr y =>
      obtain ⟨t', l⟩ := y
      rw [hs] at h2
      have e : t' = t := by simpa using h2
      exact ⟨q, l, hq, by rw [e]⟩
theorem jCell_O {ad : Nat → Nat} {cA : Nat → ClassId} {μ : JMu} {p ci : Nat} {fs : List (Option Nat)} (h : jSh p = .inl (ci, fs)) : jCell ad cA μ p = .inr (ci, fs.mapIdx (fun k o => jfv ad μ p k o)) := by unfold jCell; rw [h]
theorem jCell_I {ad : Nat → Nat} {cA : Nat → ClassId} {μ : JMu} {p n : Nat} (h : jSh p = .inr (.inl n)) : jCell ad cA μ p = .inl (cA 0, n, .inl (fun k => μ p k)) := by unfold jCell; rw [h]
theorem jCell_Q {ad : Nat → Nat} {cA : Nat → ClassId} {μ : JMu} {p t : Nat} {l : List (Option Nat)} (h : jSh p = .inr (.inr (t, l))) : jCell ad cA μ p = .inl (cA t, l.length, .inr (.inr (.inr (.inr (fun k => ((l[k]?).getD none).map ad))))) := by unfold jCell; rw [h]
theorem jfs_int {fs : List (Option Nat)} {k : Nat} {P : List Bool} (h : fs.map Option.isSome = P) (hp : P[k]? = some false) : fs[k]? = some none := by
  rw [← h, List.getElem?_map] at hp
  cases hk : fs[k]? with
  | none => rw [hk] at hp; cases hp
  | some o => cases o with
    | none => rfl
    | some q => rw [hk] at hp; cases hp
theorem jfs_ref {fs : List (Option Nat)} {k : Nat} {P : List Bool} (h : fs.map Option.isSome = P) (hp : P[k]? = some true) : ∃ q, fs[k]? = some (some q) := by
  rw [← h, List.getElem?_map] at hp
  cases hk : fs[k]? with
  | none => rw [hk] at hp; cases hp
  | some o => cases o with
    | none => rw [hk] at hp; cases hp
    | some q => exact ⟨q, rfl⟩
theorem jput_O {ad : Nat → Nat} {cA : Nat → ClassId} {μ : JMu} {p ci k : Nat} {v : Int32} {fs : List (Option Nat)} (h : jSh p = .inl (ci, fs)) (hk : fs[k]? = some none) : (.inr (ci, (fs.mapIdx (fun k o => jfv ad μ p k o)).set k (.int v)) : va_E) = jCell ad cA (jup μ p k v) p := by
  rw [jCell_O h]
  congr 2
  apply List.ext_getElem?
  intro j
  by_cases e : j = k
  · subst e
    have hlt : j < (fs.mapIdx (fun k o => jfv ad μ p k o)).length := by
      rw [List.length_mapIdx]; exact (List.getElem?_eq_some_iff.mp hk).1
    rw [List.getElem?_set_self hlt, List.getElem?_mapIdx, hk]
    simp [jfv, jup]
  · rw [List.getElem?_set_ne (Ne.symm e), List.getElem?_mapIdx, List.getElem?_mapIdx]
    cases fs[j]? with
    | none => rfl
    | some o => cases o <;> simp [jfv, jup, e]
theorem jput_I {ad : Nat → Nat} {cA : Nat → ClassId} {μ : JMu} {p n k : Nat} {v : Int32} (h : jSh p = .inr (.inl n)) : (.inl (cA 0, n, .inl (upd (fun j => μ p j) k v)) : va_E) = jCell ad cA (jup μ p k v) p := by
  rw [jCell_I h]
  congr 4
  funext j
  simp [upd, jup]
/-- System.arraycopy between int arrays -/
def jcp (μ : JMu) (p0 p1 sp dp n : Nat) : JMu := fun q j => if q = p1 ∧ dp ≤ j ∧ j < dp + n then μ p0 (sp + (j - dp)) else μ q j
theorem jcp_I {ad : Nat → Nat} {cA : Nat → ClassId} {μ : JMu} {p0 p1 m sp dp n : Nat} (h : jSh p1 = .inr (.inl m)) : (.inl (cA 0, m, .inl (va_cpy (fun j => μ p0 j) (fun j => μ p1 j) sp dp n)) : va_E) = jCell ad cA (jcp μ p0 p1 sp dp n) p1 := by
  rw [jCell_I h]
  congr 4
  funext j
  simp [va_cpy, jcp]
theorem jcp_other {ad : Nat → Nat} {cA : Nat → ClassId} {μ : JMu} {p0 p1 sp dp n : Nat} (q : Nat) (h : q ≠ p1) : jCell ad cA (jcp μ p0 p1 sp dp n) q = jCell ad cA μ q := by
  have e : ∀ j, jcp μ p0 p1 sp dp n q j = μ q j := fun j => by simp [jcp, h]
  unfold jCell
  cases hs : jSh q with
  | inl x =>
    obtain ⟨ci, fs⟩ := x
    simp only
    congr 2
    apply List.ext_getElem?
    intro j
    simp only [List.getElem?_mapIdx]
    cases fs[j]? with
    | none => rfl
    | some o => cases o <;> simp [jfv, e]
  | inr x =>
    cases x with
    | inl n => simp only [e]
    | inr y => rfl
end JH
-- what the tables say of a field, of a callee
def jCl (ci : Nat) (C : String) (T : u_T) (N : Nat) (ty0 : Nat → FieldType) : Prop := vwCl[ci]? = some (C, T, N) ∧ (∀ w ∈ u_ws C T N, jWd w) ∧ (∀ k, k < N → parseFieldDescriptor (T k).2.2.1 = some (ty0 k)) ∧ (∀ a, a < N → ∀ b, b < N → a ≠ b → (T a).2.1 ≠ (T b).2.1)
def jFd (own : String) (idx ci k : Nat) (ty : FieldType) (fin : Bool) : Prop := ∃ (C : String) (T : u_T) (N : Nat) (ty0 : Nat → FieldType), jCl ci C T N ty0 ∧ k < N ∧ (ty0 k = ty ∧ (T k).2.2.2 = fin) ∧ (jWd (.fieldLink own idx (T k).1 (T k).2.1 (T k).2.2.1) ∨ ∃ host : String, jWd (.fieldLinkNest own idx (T k).1 (T k).2.1 (T k).2.2.1 host))
theorem jWd_tab {w : Cond} {i : Nat} (h : tables_1[i]? = some w) (hg : jGood w = true) : jWd w := ⟨List.mem_append_right _ (List.mem_of_getElem? h), hg⟩
theorem jWd_sel {y : MethodName} {n i : Nat} (h : lw_privs[i]? = some (y, n)) : jWd (.selects y.cls y y) := ⟨List.mem_append_left _ (List.mem_map.mpr ⟨_, List.mem_of_getElem? h, rfl⟩), rfl⟩
def jMs (M : JM) (n : Nat) : Prop := jWd (.code M.1 M.2.1 M.2.2.1 M.2.2.2.1) ∧ jWd (.initialized M.1.cls) ∧ (plainName M.1.cls = true ∧ M.1.cls ≠ "java/lang/invoke/MethodHandle" ∧ M.1.cls ≠ "java/lang/invoke/VarHandle" ∧ (parseMethodDescriptor M.1.desc).map (fun d => d.parameters.length) = some n) ∧ M.2.2.1 ≤ 21 ∧ M.2.2.2.2 = M.1.cls
section JR2
variable {α : Type} {M : JM} {d : Nat} {Pl : List Nat} {emb : α → Option Value × JMu} {pc : Nat} {L : List (Option Value)} {st : List Value} {μ : JMu} {o : Option α}
theorem J_getI {ci k idx q : Nat} {ty : FieldType} {fin : Bool} (hd : decode M.2.1 pc = .ok (.getfield idx, 3)) (hf : jFd M.2.2.2.2 idx ci k ty fin) (hp : (jPat ci)[k]? = some false) (hO : jO Pl q ci = true) (kk : JF M d Pl emb (pc + 3) L (.int (μ q k) :: st) μ o) : JF M d Pl emb pc L (.ref q :: st) μ o :=
  fun p l e s m args below meth c A D cA ad cx a ho H locs ls hP hD hS hl => by
    have kk' := kk p l e s m args below meth c A D cA ad cx a ho H locs ls hP hD hS hl
    obtain ⟨C, T, N, ty0, ⟨hc, hw, -, -⟩, hk, -, hlk⟩ := hf
    obtain ⟨i, fs, hi, hs, hfs⟩ := jO_spec hO
    have he := jW_get (ad := ad) (cA := cA) (μ := μ) hi
    rw [jCell_O hs] at he
    have hv : (fs.mapIdx (fun k o => jfv ad μ q k o))[k]? = some (.int (μ q k)) := by
      rw [List.getElem?_mapIdx, jfs_int hfs hp]; rfl
    rcases hlk with hlk | ⟨host, hlk⟩
    · exact va_get cx.1.1 cx.1.2.1 (fun w h => cx.2.2.1.args (hw w h) _) (fun w h => h) cx.1.2.2.2 cx.2.2.2.1 hP i he hc k hk (cx.2.2.1.args hlk _) (fun _ h => h) hv hd kk'
    · exact va_getN cx.1.1 cx.1.2.1 (fun w h => cx.2.2.1.args (hw w h) _) (fun w h => h) cx.1.2.2.2 cx.2.2.2.1 hP i he hc k hk (cx.2.2.1.args hlk _) (fun _ h => h) hv hd kk'
theorem J_getR {ci k idx q r : Nat} {ty : FieldType} {fin : Bool} (hd : decode M.2.1 pc = .ok (.getfield idx, 3)) (hf : jFd M.2.2.2.2 idx ci k ty fin) (hp : (jPat ci)[k]? = some true) (hO : jO Pl q ci = true) (hr : jrf q k = r) (kk : JF M d Pl emb (pc + 3) L (.ref r :: st) μ o) : JF M d Pl emb pc L (.ref q :: st) μ o :=
  fun p l e s m args below meth c A D cA ad cx a ho H locs ls hP hD hS hl => by
    have kk' := kk p l e s m args below meth c A D cA ad cx a ho H locs ls hP hD hS hl
    obtain ⟨C, T, N, ty0, ⟨hc, hw, -, -⟩, hk, -, hlk⟩ := hf
    obtain ⟨i, fs, hi, hs, hfs⟩ := jO_spec hO
    have he := jW_get (ad := ad) (cA := cA) (μ := μ) hi
    rw [jCell_O hs] at he
    obtain ⟨y, hy⟩ := jfs_ref hfs hp
    have hry : r = y := by rw [← hr]; unfold jrf; rw [hs]; simp [hy]
    have hv : (fs.mapIdx (fun k o => jfv ad μ q k o))[k]? = some (.ref (ad r)) := by
      rw [List.getElem?_mapIdx, hy, hry]; rfl
    rcases hlk with hlk | ⟨host, hlk⟩
    · exact va_get cx.1.1 cx.1.2.1 (fun w h => cx.2.2.1.args (hw w h) _) (fun w h => h) cx.1.2.2.2 cx.2.2.2.1 hP i he hc k hk (cx.2.2.1.args hlk _) (fun _ h => h) hv hd kk'
    · exact va_getN cx.1.1 cx.1.2.1 (fun w h => cx.2.2.1.args (hw w h) _) (fun w h => h) cx.1.2.2.2 cx.2.2.2.1 hP i he hc k hk (cx.2.2.1.args hlk _) (fun _ h => h) hv hd kk'
theorem J_put {ci k idx q : Nat} {v : Int32} {ty : FieldType} (hd : decode M.2.1 pc = .ok (.putfield idx, 3)) (hf : jFd M.2.2.2.2 idx ci k ty false) (hp : (jPat ci)[k]? = some false) (hO : jO Pl q ci = true) (hn : narrow ty (.int v) = .int v) (hfit : fits ty (.int v) = true) (kk : JF M d Pl emb (pc + 3) L st (jup μ q k v) o) : JF M d Pl emb pc L (.int v :: .ref q :: st) μ o :=
  fun p l e s m args below meth c A D cA ad cx a ho H locs ls hP hD hS hl => by
    obtain ⟨C, T, N, ty0, ⟨hc, hw, hty, hnm⟩, hk, ⟨hty2, hfin⟩, hlk⟩ := hf
    obtain ⟨i, fs, hi, hs, hfs⟩ := jO_spec hO
    have he := jW_get (ad := ad) (cA := cA) (μ := μ) hi
    rw [jCell_O hs] at he
    have hkf := jfs_int hfs hp
    have hlen : k < (fs.mapIdx (fun k o => jfv ad μ q k o)).length := by
      rw [List.length_mapIdx]; exact (List.getElem?_eq_some_iff.mp hkf).1
    have hset := jW_set (ad := ad) (cA := cA) (μ := μ) cx.2.2.2.2.2.2 hi (jput_O (v := v) (ad := ad) (cA := cA) (μ := μ) hs hkf) (fun y hy => jCell_other y hy)
    have kk' : ∀ (H1 : Heap) (locs1 : List Loc), va_P D vwCl ((jW ad cA μ Pl).set i (ad q, .inr (ci, (fs.mapIdx (fun k o => jfv ad μ q k o)).set k (.int v)))) H1 → va_D A ((jW ad cA μ Pl).set i (ad q, .inr (ci, (fs.mapIdx (fun k o => jfv ad μ q k o)).set k (.int v)))) → va_S A s.heap H1 locs1 → W p l e (jR d) s m args below meth c H1 locs1 0 0 (MQ below (jQ D cA ad Pl A (emb a)) args s 0 0 A) (F0 m (pc + 3) ls (st.map (jv ad))) := by
      intro H1 locs1 h1 h2 h3
      rw [hset] at h1 h2
      exact kk p l e s m args below meth c A D cA ad cx a ho H1 locs1 ls h1 h2 h3 hl
    have hdd : parseFieldDescriptor (T k).2.2.1 = some ty := by rw [hty k hk, hty2]
    rcases hlk with hlk | ⟨host, hlk⟩
    · exact va_put cx.1.1 cx.1.2.1 (fun w h => cx.2.2.1.args (hw w h) _) (fun w h => h) ty0 hty hnm cx.1.2.2.2 cx.2.2.2.1 hP hD hS i he hc k hk (cx.2.2.1.args hlk _) (fun _ h => h) hfin hdd hn hfit hlen hd kk'
    · exact va_putN cx.1.1 cx.1.2.1 (fun w h => cx.2.2.1.args (hw w h) _) (fun w h => h) ty0 hty hnm cx.1.2.2.2 cx.2.2.2.1 hP hD hS i he hc k hk (cx.2.2.1.args hlk _) (fun _ h => h) hfin hdd hn hfit hlen hd kk'
theorem J_putI {ci k idx q : Nat} {v : Int32} (hd : decode M.2.1 pc = .ok (.putfield idx, 3)) (hf : jFd M.2.2.2.2 idx ci k .int false) (hp : (jPat ci)[k]? = some false) (hO : jO Pl q ci = true) (kk : JF M d Pl emb (pc + 3) L st (jup μ q k v) o) : JF M d Pl emb pc L (.int v :: .ref q :: st) μ o := J_put hd hf hp hO rfl rfl kk
theorem J_putZ {ci k idx q : Nat} {v : Int32} (hd : decode M.2.1 pc = .ok (.putfield idx, 3)) (hf : jFd M.2.2.2.2 idx ci k .boolean false) (hp : (jPat ci)[k]? = some false) (hO : jO Pl q ci = true) (hv : v = 0 ∨ v = 1) (kk : JF M d Pl emb (pc + 3) L st (jup μ q k v) o) : JF M d Pl emb pc L (.int v :: .ref q :: st) μ o := J_put hd hf hp hO (by rcases hv with rfl | rfl <;> rfl) (by rcases hv with rfl | rfl <;> rfl) kk
theorem J_iald {q : Nat} {i : Int32} (hd : decode M.2.1 pc = .ok (.iaload, 1)) (hI : jI Pl q = true) (hin : vp_in i (jlen q)) (kk : JF M d Pl emb (pc + 1) L (.int (μ q i.toNatClampNeg) :: st) μ o) : JF M d Pl emb pc L (.int i :: .ref q :: st) μ o :=
  fun p l e s m args below meth c A D cA ad cx a ho H locs ls hP hD hS hl => by
    obtain ⟨j, hj, hs⟩ := jI_spec hI
    have he := jW_get (ad := ad) (cA := cA) (μ := μ) hj
    rw [jCell_I hs] at he
    exact va_iald cx.1.1 cx.1.2.1 cx.2.2.2.1 hP j 0 he rfl hin hd (kk p l e s m args below meth c A D cA ad cx a ho H locs ls hP hD hS hl)
theorem J_iast {q : Nat} {i x : Int32} (hd : decode M.2.1 pc = .ok (.iastore, 1)) (hI : jI Pl q = true) (hin : vp_in i (jlen q)) (kk : JF M d Pl emb (pc + 1) L st (jup μ q i.toNatClampNeg x) o) : JF M d Pl emb pc L (.int x :: .int i :: .ref q :: st) μ o :=
  fun p l e s m args below meth c A D cA ad cx a ho H locs ls hP hD hS hl => by
    obtain ⟨j, hj, hs⟩ := jI_spec hI
    have he := jW_get (ad := ad) (cA := cA) (μ := μ) hj
    rw [jCell_I hs] at he
    have hset := jW_set (ad := ad) (cA := cA) (μ := μ) cx.2.2.2.2.2.2 hj (jput_I (k := i.toNatClampNeg) (v := x) (ad := ad) (cA := cA) (μ := μ) hs) (fun y hy => jCell_other y hy)
    refine va_iast cx.1.1 cx.1.2.1 cx.2.2.2.1 hP hD hS j 0 he rfl hin hd (fun H1 locs1 h1 h2 h3 => ?_)
    rw [hset] at h1 h2
    exact kk p l e s m args below meth c A D cA ad cx a ho H1 locs1 ls h1 h2 h3 hl
theorem J_alen {q : Nat} (hd : decode M.2.1 pc = .ok (.arraylength, 1)) (hI : jI Pl q = true) (kk : JF M d Pl emb (pc + 1) L (.int (Int32.ofNat (jlen q)) :: st) μ o) : JF M d Pl emb pc L (.ref q :: st) μ o :=
  fun p l e s m args below meth c A D cA ad cx a ho H locs ls hP hD hS hl => by
    obtain ⟨j, hj, hs⟩ := jI_spec hI
    have he := jW_get (ad := ad) (cA := cA) (μ := μ) hj
    rw [jCell_I hs] at he
    exact va_alen cx.1.1 cx.1.2.1 cx.2.2.2.1 hP j 0 he rfl rfl hd (kk p l e s m args below meth c A D cA ad cx a ho H locs ls hP hD hS hl)
theorem J_alenQ {q t : Nat} {C : String} (hd : decode M.2.1 pc = .ok (.arraylength, 1)) (hI : jQr Pl q t = true) (ht : ∀ cA : Nat → ClassId, (jty cA)[t]? = some (cA t, .object C)) (kk : JF M d Pl emb (pc + 1) L (.int (Int32.ofNat (jlen q)) :: st) μ o) : JF M d Pl emb pc L (.ref q :: st) μ o :=
  fun p l e s m args below meth c A D cA ad cx a ho H locs ls hP hD hS hl => by
    obtain ⟨j, y, hj, hs⟩ := jQr_spec hI
    have he := jW_get (ad := ad) (cA := cA) (μ := μ) hj
    rw [jCell_Q hs] at he
    have hz : jlen q = y.length := by unfold jlen; rw [hs]
    exact va_alen cx.1.1 cx.1.2.1 cx.2.2.2.1 hP j t he (ht cA) (by rw [hz]) hd (kk p l e s m args below meth c A D cA ad cx a ho H locs ls hP hD hS hl)
theorem J_aald {q t : Nat} {C : String} {i : Int32} (hd : decode M.2.1 pc = .ok (.aaload, 1)) (hI : jQr Pl q t = true) (ht : ∀ cA : Nat → ClassId, (jty cA)[t]? = some (cA t, .object C)) (hin : vp_in i (jlen q)) (kk : JF M d Pl emb (pc + 1) L (jn (jel q i.toNatClampNeg) :: st) μ o) : JF M d Pl emb pc L (.int i :: .ref q :: st) μ o :=
  fun p l e s m args below meth c A D cA ad cx a ho H locs ls hP hD hS hl => by
    obtain ⟨j, y, hj, hs⟩ := jQr_spec hI
    have he := jW_get (ad := ad) (cA := cA) (μ := μ) hj
    rw [jCell_Q hs] at he
    have hz : jlen q = y.length := by unfold jlen; rw [hs]
    have hv : va_rf (((y[i.toNatClampNeg]?).getD none).map ad) = jv ad (jn (jel q i.toNatClampNeg)) := by
      unfold jel; rw [hs]
      simp only
      cases (y[i.toNatClampNeg]?).getD none <;> rfl
    refine va_aldq cx.1.1 cx.1.2.1 cx.2.2.2.1 hP j t he (ht cA) (by rw [← hz]; exact hin) hd ?_
    rw [hv]
    exact kk p l e s m args below meth c A D cA ad cx a ho H locs ls hP hD hS hl
theorem J_copy {p0 p1 idx : Nat} {sp dp n : Int32} (hd : decode M.2.1 pc = .ok (.invokestatic idx, 3)) (hlk : jWd (.methodLink M.2.2.2.2 idx arraycopyName)) (hw1 : jWd (.native arraycopyName)) (hw2 : jWd (.static arraycopyName)) (hw3 : jWd (.initialized "java/lang/System")) (hI0 : jI Pl p0 = true) (hI1 : jI Pl p1 = true) (h1 : ¬ sp < 0) (h2 : ¬ dp < 0) (h3 : ¬ n < 0) (h4 : sp.toNatClampNeg + n.toNatClampNeg ≤ jlen p0) (h5 : dp.toNatClampNeg + n.toNatClampNeg ≤ jlen p1) (hdd : 1 ≤ d) (hst : (st.map fun v => v.category).sum ≤ 8)
    (kk : JF M d Pl emb (pc + 3) L st (jcp μ p0 p1 sp.toNatClampNeg dp.toNatClampNeg n.toNatClampNeg) o) : JF M d Pl emb pc L (.int n :: .int dp :: .ref p1 :: .int sp :: .ref p0 :: st) μ o :=
  fun p l e s m args below meth c A D cA ad cx a ho H locs ls hP hD hS hl => by
    obtain ⟨j0, hj0, hs0⟩ := jI_spec hI0
    obtain ⟨j1, hj1, hs1⟩ := jI_spec hI1
    have he0 := jW_get (ad := ad) (cA := cA) (μ := μ) hj0
    rw [jCell_I hs0] at he0
    have he1 := jW_get (ad := ad) (cA := cA) (μ := μ) hj1
    rw [jCell_I hs1] at he1
    have hcat : ((st.map (jv ad)).map fun v => v.category).sum = (st.map fun v => v.category).sum := by
      rw [List.map_map]; congr 1; exact List.map_congr_left (fun v _ => jv_cat v)
    have hset := jW_set (ad := ad) (cA := cA) (μ := μ) cx.2.2.2.2.2.2 hj1 (jcp_I (p0 := p0) (sp := sp.toNatClampNeg) (dp := dp.toNatClampNeg) (n := n.toNatClampNeg) (ad := ad) (cA := cA) (μ := μ) hs1) (fun y hy => jcp_other y hy)
    refine va_copyi (ty := .int) cx.1.1 cx.1.2.1 (cx.1.2.2.1.trans hl.1.symm) cx.1.2.2.2 (cx.2.2.1.args hlk _) (cx.2.2.1.args hw1 _) (cx.2.2.1.args hw2 _) (cx.2.2.1.args hw3 _) cx.2.2.2.1 hP hD hS j0 j1 0 0 he0 he1 rfl rfl rfl h1 h2 h3 h4 h5 (fun _ _ => rfl) (by show 1 ≤ d; exact hdd) ?_ hd (fun H1 locs1 g1 g2 g3 => ?_)
    · show _ ≤ 40 * d
      rw [hcat]
      have : nativeFrameWords "java/lang/System" "arraycopy" 5 = 7 := by decide +kernel
      omega
    · rw [hset] at g1 g2
      exact kk p l e s m args below meth c A D cA ad cx a ho H1 locs1 ls g1 g2 g3 hl
def jmax (x y : Int32) : Int32 := if x < y then y else x
def jmin (x y : Int32) : Int32 := if y < x then y else x
theorem J_max {idx : Nat} {x y : Int32} (hd : decode M.2.1 pc = .ok (.invokestatic idx, 3)) (hlk : jWd (.methodLink M.2.2.2.2 idx Lib.Math.max.name)) (hw1 : jWd (.static Lib.Math.max.name)) (hw2 : jWd (.initialized "java/lang/Math")) (hw3 : jWd (.code Lib.Math.max.name Lib.Math.max.code 2 (some .int))) (hdd : 1 ≤ d) (hst : (st.map fun v => v.category).sum ≤ 8) (kk : JF M d Pl emb (pc + 3) L (.int (jmax x y) :: st) μ o) : JF M d Pl emb pc L (.int y :: .int x :: st) μ o :=
  fun p l e s m args below meth c A D cA ad cx a ho H locs ls hP hD hS hl => by
    have hcat : ((st.map (jv ad)).map fun v => v.category).sum = (st.map fun v => v.category).sum := by
      rw [List.map_map]; congr 1; exact List.map_congr_left (fun v _ => jv_cat v)
    exact va_mmax cx.1.1 cx.1.2.1 (cx.1.2.2.1.trans hl.1.symm) cx.1.2.2.2 (cx.2.2.1.args hlk _) (cx.2.2.1.args hw1 _) (cx.2.2.1.args hw2 _) (cx.2.2.1.args hw3 _) (by show 1 ≤ d; exact hdd) (by show _ ≤ 40 * d; rw [hcat]; omega) (Nat.le_refl _) (Nat.le_refl _) hd (kk p l e s m args below meth c A D cA ad cx a ho H locs ls hP hD hS hl)
theorem J_min {idx : Nat} {x y : Int32} (hd : decode M.2.1 pc = .ok (.invokestatic idx, 3)) (hlk : jWd (.methodLink M.2.2.2.2 idx Lib.Math.min.name)) (hw1 : jWd (.static Lib.Math.min.name)) (hw2 : jWd (.initialized "java/lang/Math")) (hw3 : jWd (.code Lib.Math.min.name Lib.Math.min.code 2 (some .int))) (hdd : 1 ≤ d) (hst : (st.map fun v => v.category).sum ≤ 8) (kk : JF M d Pl emb (pc + 3) L (.int (jmin x y) :: st) μ o) : JF M d Pl emb pc L (.int y :: .int x :: st) μ o :=
  fun p l e s m args below meth c A D cA ad cx a ho H locs ls hP hD hS hl => by
    have hcat : ((st.map (jv ad)).map fun v => v.category).sum = (st.map fun v => v.category).sum := by
      rw [List.map_map]; congr 1; exact List.map_congr_left (fun v _ => jv_cat v)
    exact va_mmin cx.1.1 cx.1.2.1 (cx.1.2.2.1.trans hl.1.symm) cx.1.2.2.2 (cx.2.2.1.args hlk _) (cx.2.2.1.args hw1 _) (cx.2.2.1.args hw2 _) (cx.2.2.1.args hw3 _) (by show 1 ≤ d; exact hdd) (by show _ ≤ 40 * d; rw [hcat]; omega) (Nat.le_refl _) (Nat.le_refl _) hd (kk p l e s m args below meth c A D cA ad cx a ho H locs ls hP hD hS hl)
-- statics
theorem J_getsA {idx : Nat} (hd : decode M.2.1 pc = .ok (.getstatic idx, 3)) (hlk : jWd (.fieldLink M.2.2.2.2 idx "MoonRooms" "ABOVE" "[I")) (kk : JF M d Pl emb (pc + 3) L (.ref 200 :: st) μ o) : JF M d Pl emb pc L st μ o :=
  fun p l e s m args below meth c A D cA ad cx a ho H locs ls hP hD hS hl => va_gets cx.1.1 cx.1.2.1 cx.2.2.2.2.2.1.1.1 hS cx.1.2.2.2 (cx.2.2.1.args hlk _) (fun _ h => h) hd (kk p l e s m args below meth c A D cA ad cx a ho H locs ls hP hD hS hl)
theorem J_getsAN {idx : Nat} {host : String} (hd : decode M.2.1 pc = .ok (.getstatic idx, 3)) (hlk : jWd (.fieldLinkNest M.2.2.2.2 idx "MoonRooms" "ABOVE" "[I" host)) (kk : JF M d Pl emb (pc + 3) L (.ref 200 :: st) μ o) : JF M d Pl emb pc L st μ o :=
  fun p l e s m args below meth c A D cA ad cx a ho H locs ls hP hD hS hl => va_getsN cx.1.1 cx.1.2.1 cx.2.2.2.2.2.1.1.1 hS cx.1.2.2.2 (cx.2.2.1.args hlk _) (fun _ h => h) hd (kk p l e s m args below meth c A D cA ad cx a ho H locs ls hP hD hS hl)
theorem J_getsB {idx : Nat} (hd : decode M.2.1 pc = .ok (.getstatic idx, 3)) (hlk : jWd (.fieldLink M.2.2.2.2 idx "MoonRooms$Speaker" "BODIES" "[I")) (kk : JF M d Pl emb (pc + 3) L (.ref 201 :: st) μ o) : JF M d Pl emb pc L st μ o :=
  fun p l e s m args below meth c A D cA ad cx a ho H locs ls hP hD hS hl => va_gets cx.1.1 cx.1.2.1 cx.2.2.2.2.2.1.2.1 hS cx.1.2.2.2 (cx.2.2.1.args hlk _) (fun _ h => h) hd (kk p l e s m args below meth c A D cA ad cx a ho H locs ls hP hD hS hl)
theorem J_ialdA {i : Int32} (hd : decode M.2.1 pc = .ok (.iaload, 1)) (hin : vp_in i 7) (kk : JF M d Pl emb (pc + 1) L (.int (jABOVE.getD i.toNatClampNeg 0) :: st) μ o) : JF M d Pl emb pc L (.int i :: .ref 200 :: st) μ o :=
  fun p l e s m args below meth c A D cA ad cx a ho H locs ls hP hD hS hl => va_ti cx.1.1 cx.1.2.1 cx.2.2.2.2.2.1.1.2 hS hin rfl hd (kk p l e s m args below meth c A D cA ad cx a ho H locs ls hP hD hS hl)
theorem J_ialdB {i : Int32} (hd : decode M.2.1 pc = .ok (.iaload, 1)) (hin : vp_in i 28) (kk : JF M d Pl emb (pc + 1) L (.int (jBODIES.getD i.toNatClampNeg 0) :: st) μ o) : JF M d Pl emb pc L (.int i :: .ref 201 :: st) μ o :=
  fun p l e s m args below meth c A D cA ad cx a ho H locs ls hP hD hS hl => va_ti cx.1.1 cx.1.2.1 cx.2.2.2.2.2.1.2.2 hS hin rfl hd (kk p l e s m args below meth c A D cA ad cx a ho H locs ls hP hD hS hl)
theorem J_alenA (hd : decode M.2.1 pc = .ok (.arraylength, 1)) (kk : JF M d Pl emb (pc + 1) L (.int 7 :: st) μ o) : JF M d Pl emb pc L (.ref 200 :: st) μ o :=
  fun p l e s m args below meth c A D cA ad cx a ho H locs ls hP hD hS hl => va_tlen cx.1.1 cx.1.2.1 cx.2.2.2.2.2.1.1.2 hS rfl hd (kk p l e s m args below meth c A D cA ad cx a ho H locs ls hP hD hS hl)
theorem J_alenB (hd : decode M.2.1 pc = .ok (.arraylength, 1)) (kk : JF M d Pl emb (pc + 1) L (.int 28 :: st) μ o) : JF M d Pl emb pc L (.ref 201 :: st) μ o :=
  fun p l e s m args below meth c A D cA ad cx a ho H locs ls hP hD hS hl => va_tlen cx.1.1 cx.1.2.1 cx.2.2.2.2.2.1.2.2 hS rfl hd (kk p l e s m args below meth c A D cA ad cx a ho H locs ls hP hD hS hl)
-- calls
def jE (as : List Value) : List (Option Value) := match as with
  | [] => []
  | v :: vs => if v.category = 2 then some v :: none :: jE vs else some v :: jE vs
theorem jE_len {ad : Nat → Nat} (as : List Value) : (lg_sl (as.map (jv ad))).length = (jE as).length := by
  induction as with
  | nil => rfl
  | cons v vs ih =>
    simp only [List.map_cons, lg_sl, List.flatMap_cons, List.length_append, jE, jv_cat] at ih ⊢
    by_cases h : v.category = 2
    · simp only [h, if_true, List.length_cons, List.length_nil]
      omega
    · simp only [h, if_false, List.length_cons, List.length_nil]
      omega
theorem jE_mem {ad : Nat → Nat} (as : List Value) : ∀ (n i : Nat) (v : Value), (jE as)[i]? = some (some v) → (n + i, jv ad v) ∈ lv_args n (as.map (jv ad)) := by
  induction as with
  | nil => intro n i v h; simp [jE] at h
  | cons w vs ih =>
    intro n i v h
    simp only [List.map_cons, lv_args, jv_cat]
    by_cases hc : w.category = 2
    · simp only [jE, hc, if_true] at h ⊢
      match i, h with
      | 0, h => simp only [List.getElem?_cons_zero, Option.some.injEq] at h; subst h; exact List.mem_cons_self
      | 1, h => simp at h
      | i + 2, h =>
        simp only [List.getElem?_cons_succ] at h
        have := ih (n + 2) i v h
        rw [show n + (i + 2) = n + 2 + i by omega]
        exact List.mem_cons_of_mem _ this
    · simp only [jE, hc, if_false] at h ⊢
      match i, h with
      | 0, h => simp only [List.getElem?_cons_zero, Option.some.injEq] at h; subst h; exact List.mem_cons_self
      | i + 1, h =>
        simp only [List.getElem?_cons_succ] at h
        have := ih (n + 1) i v h
        rw [show n + (i + 1) = n + 1 + i by omega]
        exact List.mem_cons_of_mem _ this
theorem jE_has {ad : Nat → Nat} {as : List Value} {k i : Nat} {v : Value} (h : (jE as ++ List.replicate k none)[i]? = some (some v)) : (i, jv ad v) ∈ lv_args 0 (as.map (jv ad)) := by
  by_cases hl : i < (jE as).length
  · rw [List.getElem?_append_left hl] at h
    have := jE_mem (ad := ad) as 0 i v h
    rwa [Nat.zero_add] at this
  · rw [List.getElem?_append_right (by omega), List.getElem?_replicate] at h
    split at h <;> simp at h
theorem JC_of {n : Nat} {as : List Value} {L0 : List (Option Value)} (hms : jMs M n) (hlen : (jE as).length ≤ M.2.2.1) (hL : L0 = jE as ++ List.replicate (M.2.2.1 - (jE as).length) none) (h : JF M d Pl emb 0 L0 [] μ o) : ∀ b, o = some b → JC M d Pl as μ (emb b) := by
  intro b hb l D cA ad A hn
  obtain ⟨-, -, ⟨hpl, -⟩, -, hown1⟩ := hms
  refine Met.ofW (cc := M.2.1) (maxL := M.2.2.1) (ret := M.2.2.2.1) hpl rfl ?_
  intro p e s m args below meth c s₁ B hml hv
  obtain ⟨rfl, hA, hP, hD, hK, hT, hSt⟩ := hv
  have hown : s.vm.findClass M.1.cls = some m.cls := findClass_of_methodNamed B.named
  have hl := lv_entry (as.map (jv ad)) (n := M.2.2.1) (by rw [jE_len]; exact hlen)
  rw [lg_entry_eq]
  generalize ((lg_sl (as.map (jv ad)) ++ List.replicate (M.2.2.1 - (lg_sl (as.map (jv ad))).length) Slot.unset).toArray) = ls at hl ⊢
  exact h p l e s m _ below meth c A D cA ad ⟨⟨B.exec, B.bytes, hml, by rw [hown1]; exact hown⟩, ⟨B.returns, B.notSynchronized⟩, hT, hK, hA, hSt, hn⟩ b hb s.heap [] ls hP hD va_S.rf ⟨hl.1, hl.2.1, fun i v hi => hl.2.2 (i, jv ad v) (jE_has (by rw [← hL]; exact hi))⟩
theorem J_run {p : Program} {l : Launch} {e : Env} {s : State} {m : MethodId} {args : Array Value} {below : List Frame} {meth : Method} {c : Code} {A : Nat → Prop} {D : va_G} {cA : Nat → ClassId} {ad : Nat → Nat} {H : Heap} {locs : List Loc} {ls : Array Slot} {st0 rest : List Value} {r : Option Value × JMu} {a : Array Value} {Q : State → Prop}
    (hr : va_Run p l e (jR d) s m args below meth c H locs 0 0 0 0 (F0 m pc ls st0) rest (jQ D cA ad Pl A r a) A) (hS : va_S A s.heap H locs)
    (kk : ∀ (H1 : Heap) (locs1 : List Loc), va_P D vwCl (jW ad cA r.2 Pl) H1 → va_S A s.heap H1 locs1 → W p l e (jR d) s m args below meth c H1 locs1 0 0 Q (F0 m (pc + 3) ls ((r.1.map (jv ad)).toList ++ rest))) : W p l e (jR d) s m args below meth c H locs 0 0 Q (F0 m pc ls st0) := by
  intro T hT X
  obtain ⟨v, st₀, t, T', L, h0, X', hL, e1, e2, ⟨⟨hv, hp⟩, hz, hk⟩, st⟩ := hr T hT X
  have hv' : v = r.1.map (jv ad) := by cases hv; rfl
  rw [hv'] at st
  rw [h0] at hz hk
  obtain ⟨t2, a1, b1⟩ := kk T'.heap (locs ++ L) (by rw [e1]; exact hp)
    ⟨Nat.le_trans hS.1 (by rw [e1]; exact hz), fun q h1 h2 => by rw [e1, hk q (Nat.lt_of_lt_of_le h1 hS.1) h2]; exact hS.2.1 q h1 h2, fun q hq => by
      rcases List.mem_append.mp hq with h | h
      · exact hS.2.2 q h
      · exact hL q h⟩ T' rfl X'
  exact ⟨t2, st t2 a1, b1⟩
theorem jcat {ad : Nat → Nat} (l : List Value) : ((l.map (jv ad)).map fun v => v.category).sum = (l.map fun v => v.category).sum := by
  rw [List.map_map]; congr 1; exact List.map_congr_left (fun v _ => jv_cat v)
theorem jtl {ad : Nat → Nat} (r : Option Value) (st : List Value) : (r.map (jv ad)).toList ++ st.map (jv ad) = (r.toList ++ st).map (jv ad) := by cases r <;> rfl
/-- what a callee asks of its start, at a caller's world -/
theorem jPre {M' : JM} {n : Nat} {p : Program} {s : State} {m : MethodId} {meth : Method} {c : Code} {A : Nat → Prop} {D : va_G} {cA : Nat → ClassId} {ad : Nat → Nat} {H : Heap} {locs : List Loc} {as : List Value} (cx : JCx M Pl p s m meth c A D cA ad) (hP : va_P D vwCl (jW ad cA μ Pl) H) (hD : va_D A (jW ad cA μ Pl)) (hS : va_S A s.heap H locs) :
    PreS s H (fun v U => v = (as.map (jv ad)).toArray ∧ (∀ q : Nat, U.heap.size ≤ q → A q) ∧ va_P D vwCl (jW ad cA μ Pl) U.heap ∧ va_D A (jW ad cA μ Pl) ∧ va_K D vwCl (jty cA) U ∧ jTW U ∧ jSt ad A U) (as.map (jv ad)) := by
  refine ⟨fun a U g mk q => ?_, fun U hU hW => ?_⟩
  · obtain ⟨h1, h2, h3, h4, h5, h6, h7⟩ := q
    refine ⟨h1, h2, h3, h4, va_K.moved (u := U) (U := U.calling g mk a) (Vm.Alike.refl U.vm) h5, ?_, ?_⟩
    · exact jTW.warm (s := U) (U := U.calling g mk a) h6 (State.WarmedH.refl U)
    · exact jSt.eq (s := U) (U := U.calling g mk a) h7 rfl (Vm.Alike.refl U.vm)
  · refine ⟨rfl, fun q h => cx.2.2.2.2.1 q (Nat.le_trans hS.1 (by rw [hU] at h; exact h)), by rw [hU]; exact hP, hD, va_K.moved hW.alike cx.2.2.2.1, cx.2.2.1.warm hW, cx.2.2.2.2.2.1.next hS hU hW⟩
theorem jCB {M' : JM} {d' n idx : Nat} {p : Program} {s : State} {m : MethodId} {args : Array Value} {meth : Method} {c : Code} {A : Nat → Prop} {D : va_G} {cA : Nat → ClassId} {ad : Nat → Nat} (cx : JCx M Pl p s m meth c A D cA ad) (hms : jMs M' n) (hlk : jWd (.methodLink M.2.2.2.2 idx M'.1)) (hdd : d' + 1 ≤ d) :
    CallB (jR d) s args M.2.2.2.2 idx M'.1 M'.2.1 M'.2.2.1 M'.2.2.2.1 [Cond.code M'.1 M'.2.1 M'.2.2.1 M'.2.2.2.1] (jR d') 0 0 n := by
  obtain ⟨h1, h2, ⟨-, h3, h4, h5⟩, h6, -⟩ := hms
  refine ⟨rfl, rfl, hdd, by show 8 + (M'.2.2.1 + 11) + 40 * d' ≤ 40 * d; omega, fun w hw a' U hW => ?_, List.mem_cons_self, cx.2.2.1.args h1 _, cx.2.2.1.args h2 _, ⟨h3, h4⟩, fun sig h => ?_, cx.2.2.1.args hlk _⟩
  · rw [List.mem_singleton.mp hw]
    exact (cx.2.2.1.warm hW).args h1 a'
  · rw [h] at h5
    exact (Option.some.inj h5).symm
theorem jCN {M' : JM} {d' n idx : Nat} {host : String} {p : Program} {s : State} {m : MethodId} {args : Array Value} {meth : Method} {c : Code} {A : Nat → Prop} {D : va_G} {cA : Nat → ClassId} {ad : Nat → Nat} (cx : JCx M Pl p s m meth c A D cA ad) (hms : jMs M' n) (hlk : jWd (.methodLinkNest M.2.2.2.2 idx M'.1 host)) (hdd : d' + 1 ≤ d) :
    va_CN (jR d) s args M.2.2.2.2 idx M'.1 host M'.2.1 M'.2.2.1 M'.2.2.2.1 [Cond.code M'.1 M'.2.1 M'.2.2.1 M'.2.2.2.1] (jR d') 0 0 n := by
  obtain ⟨h1, h2, ⟨-, h3, h4, h5⟩, h6, -⟩ := hms
  refine ⟨⟨rfl, rfl, hdd, by show 8 + (M'.2.2.1 + 11) + 40 * d' ≤ 40 * d; omega, fun w hw a' U hW => ?_, List.mem_cons_self⟩, cx.2.2.1.args h1 _, cx.2.2.1.args h2 _, ⟨h3, h4⟩, fun sig h => ?_, cx.2.2.1.args hlk _⟩
  · rw [List.mem_singleton.mp hw]
    exact (cx.2.2.1.warm hW).args h1 a'
  · rw [h] at h5
    exact (Option.some.inj h5).symm
theorem J_callS {β : Type} {M' : JM} {d' n idx : Nat} {as : List Value} {g : Option β} {emb' : β → Option Value × JMu} {κ : β → Option α} (hd : decode M.2.1 pc = .ok (.invokestatic idx, 3)) (hlk : jWd (.methodLink M.2.2.2.2 idx M'.1)) (hms : jMs M' n) (hw : jWd (.static M'.1)) (hdd : d' + 1 ≤ d) (hn : as.length = n) (hst : (st.map fun v => v.category).sum ≤ 8) (hg : ∀ b, g = some b → JC M' d' Pl as μ (emb' b)) (kk : ∀ b, JF M d Pl emb (pc + 3) L ((emb' b).1.toList ++ st) (emb' b).2 (κ b)) : JF M d Pl emb pc L (as.reverse ++ st) μ (g.bind κ) :=
  fun p l e s m args below meth c A D cA ad cx a ho H locs ls hP hD hS hl => by
    cases hgb : g with
    | none => rw [hgb] at ho; cases ho
    | some b =>
      rw [hgb] at ho
      refine J_run (r := emb' b) (rest := st.map (jv ad)) (va_runS (As := as.map (jv ad)) ⟨cx.1.1, cx.1.2.1, cx.1.2.2.1, cx.1.2.2.2, fun w h => absurd h List.not_mem_nil⟩ (hg b hgb l D cA ad A cx.2.2.2.2.2.2) ⟨jCB cx hms hlk hdd, cx.2.2.1.args hw _⟩ (jPre (M' := M') (n := n) cx hP hD hS) rfl (by rw [List.length_map]; exact hn) hl.1 (by simp [List.map_append, List.map_reverse]) (lv_room (by rw [jcat]; exact hst)) hd ⟨Nat.le_refl _, Nat.le_refl _⟩) hS (fun H1 locs1 g1 g2 => ?_)
      rw [jtl]
      exact kk b p l e s m args below meth c A D cA ad cx a ho H1 locs1 ls g1 (jW_D hD) g2 hl
theorem J_callSN {β : Type} {M' : JM} {d' n idx : Nat} {host : String} {as : List Value} {g : Option β} {emb' : β → Option Value × JMu} {κ : β → Option α} (hd : decode M.2.1 pc = .ok (.invokestatic idx, 3)) (hlk : jWd (.methodLinkNest M.2.2.2.2 idx M'.1 host)) (hms : jMs M' n) (hw : jWd (.static M'.1)) (hdd : d' + 1 ≤ d) (hn : as.length = n) (hst : (st.map fun v => v.category).sum ≤ 8) (hg : ∀ b, g = some b → JC M' d' Pl as μ (emb' b)) (kk : ∀ b, JF M d Pl emb (pc + 3) L ((emb' b).1.toList ++ st) (emb' b).2 (κ b)) : JF M d Pl emb pc L (as.reverse ++ st) μ (g.bind κ) :=
  fun p l e s m args below meth c A D cA ad cx a ho H locs ls hP hD hS hl => by
    cases hgb : g with
    | none => rw [hgb] at ho; cases ho
    | some b =>
      rw [hgb] at ho
      refine J_run (r := emb' b) (rest := st.map (jv ad)) (va_runSN (As := as.map (jv ad)) ⟨cx.1.1, cx.1.2.1, cx.1.2.2.1, cx.1.2.2.2, fun w h => absurd h List.not_mem_nil⟩ (hg b hgb l D cA ad A cx.2.2.2.2.2.2) ⟨jCN cx hms hlk hdd, cx.2.2.1.args hw _, trivial⟩ (jPre (M' := M') (n := n) cx hP hD hS) rfl (by rw [List.length_map]; exact hn) hl.1 (by simp [List.map_append, List.map_reverse]) (lv_room (by rw [jcat]; exact hst)) hd ⟨Nat.le_refl _, Nat.le_refl _⟩) hS (fun H1 locs1 g1 g2 => ?_)
      rw [jtl]
      exact kk b p l e s m args below meth c A D cA ad cx a ho H1 locs1 ls g1 (jW_D hD) g2 hl
theorem J_callV {β : Type} {M' : JM} {d' n idx q ci : Nat} {as : List Value} {g : Option β} {emb' : β → Option Value × JMu} {κ : β → Option α} (hd : decode M.2.1 pc = .ok (.invokevirtual idx, 3)) (hlk : jWd (.methodLink M.2.2.2.2 idx M'.1)) (hms : jMs M' n) (hw : jWd (.instanceMethod M'.1) ∧ jWd (.selects M'.1.cls M'.1 M'.1)) (hO : jO Pl q ci = true) (hci : ∃ (T : u_T) (N : Nat), vwCl[ci]? = some (M'.1.cls, T, N)) (hdd : d' + 1 ≤ d) (hn : as.length = n) (hst : (st.map fun v => v.category).sum ≤ 8) (hg : ∀ b, g = some b → JC M' d' Pl (.ref q :: as) μ (emb' b)) (kk : ∀ b, JF M d Pl emb (pc + 3) L ((emb' b).1.toList ++ st) (emb' b).2 (κ b)) : JF M d Pl emb pc L (as.reverse ++ .ref q :: st) μ (g.bind κ) :=
  fun p l e s m args below meth c A D cA ad cx a ho H locs ls hP hD hS hl => by
    cases hgb : g with
    | none => rw [hgb] at ho; cases ho
    | some b =>
      rw [hgb] at ho
      obtain ⟨i, fs, hi, hs, -⟩ := jO_spec hO
      have he := jW_get (ad := ad) (cA := cA) (μ := μ) hi
      rw [jCell_O hs] at he
      obtain ⟨T, N, hci⟩ := hci
      have hpre := jPre (M' := M') (n := n) (as := .ref q :: as) cx hP hD hS
      refine J_run (r := emb' b) (rest := st.map (jv ad)) (va_runV (C := M'.1.cls) (b := ad q) (As := as.map (jv ad)) ⟨cx.1.1, cx.1.2.1, cx.1.2.2.1, cx.1.2.2.2, fun w h => absurd h List.not_mem_nil⟩ (hg b hgb l D cA ad A cx.2.2.2.2.2.2) ⟨jCB cx hms hlk hdd, cx.2.2.1.args hw.1 _, cx.2.2.1.args hw.2 _⟩ ⟨hpre.1, va_recv cx.2.2.2.1 hP hci he, hpre.2⟩ rfl (by rw [List.length_map]; exact hn) hl.1 (by simp [List.map_append, List.map_reverse, jv]) (lv_room (by rw [jcat]; exact hst)) hd ⟨Nat.le_refl _, Nat.le_refl _⟩) hS (fun H1 locs1 g1 g2 => ?_)
      rw [jtl]
      exact kk b p l e s m args below meth c A D cA ad cx a ho H1 locs1 ls g1 (jW_D hD) g2 hl
theorem J_callVN {β : Type} {M' : JM} {d' n idx q ci : Nat} {host : String} {as : List Value} {g : Option β} {emb' : β → Option Value × JMu} {κ : β → Option α} (hd : decode M.2.1 pc = .ok (.invokevirtual idx, 3)) (hlk : jWd (.methodLinkNest M.2.2.2.2 idx M'.1 host)) (hms : jMs M' n) (hw : jWd (.instanceMethod M'.1) ∧ jWd (.selects M'.1.cls M'.1 M'.1)) (hO : jO Pl q ci = true) (hci : ∃ (T : u_T) (N : Nat), vwCl[ci]? = some (M'.1.cls, T, N)) (hdd : d' + 1 ≤ d) (hn : as.length = n) (hst : (st.map fun v => v.category).sum ≤ 8) (hg : ∀ b, g = some b → JC M' d' Pl (.ref q :: as) μ (emb' b)) (kk : ∀ b, JF M d Pl emb (pc + 3) L ((emb' b).1.toList ++ st) (emb' b).2 (κ b)) : JF M d Pl emb pc L (as.reverse ++ .ref q :: st) μ (g.bind κ) :=
  fun p l e s m args below meth c A D cA ad cx a ho H locs ls hP hD hS hl => by
    cases hgb : g with
    | none => rw [hgb] at ho; cases ho
    | some b =>
      rw [hgb] at ho
      obtain ⟨i, fs, hi, hs, -⟩ := jO_spec hO
      have he := jW_get (ad := ad) (cA := cA) (μ := μ) hi
      rw [jCell_O hs] at he
      obtain ⟨T, N, hci⟩ := hci
      have hpre := jPre (M' := M') (n := n) (as := .ref q :: as) cx hP hD hS
      refine J_run (r := emb' b) (rest := st.map (jv ad)) (va_runVN (C := M'.1.cls) (b := ad q) (As := as.map (jv ad)) ⟨cx.1.1, cx.1.2.1, cx.1.2.2.1, cx.1.2.2.2, fun w h => absurd h List.not_mem_nil⟩ (hg b hgb l D cA ad A cx.2.2.2.2.2.2) ⟨jCN cx hms hlk hdd, cx.2.2.1.args hw.1 _, cx.2.2.1.args hw.2 _⟩ ⟨hpre.1, va_recv cx.2.2.2.1 hP hci he, hpre.2⟩ rfl (by rw [List.length_map]; exact hn) hl.1 (by simp [List.map_append, List.map_reverse, jv]) (lv_room (by rw [jcat]; exact hst)) hd ⟨Nat.le_refl _, Nat.le_refl _⟩) hS (fun H1 locs1 g1 g2 => ?_)
      rw [jtl]
      exact kk b p l e s m args below meth c A D cA ad cx a ho H1 locs1 ls g1 (jW_D hD) g2 hl
theorem J_callS_i {M' : JM} {d' n idx : Nat}  {as : List Value} {g : Option Int32} {κ : Int32 → Option α} (hd : decode M.2.1 pc = .ok (.invokestatic idx, 3)) (hlk : jWd (.methodLink M.2.2.2.2 idx M'.1)) (hms : jMs M' n) (hw : jWd (.static M'.1)) (hdd : d' + 1 ≤ d) (hn : as.length = n) (hst : (st.map fun v => v.category).sum ≤ 8) (hg : ∀ b, g = some b → JC M' d' Pl as μ (some (.int b), μ)) (kk : ∀ v : Int32, JF M d Pl emb (pc + 3) L (.int v :: st) μ (κ v)) : JF M d Pl emb pc L (as.reverse ++ st) μ (g.bind κ) := J_callS (emb' := fun v => (some (.int v), μ)) hd hlk hms hw hdd hn hst hg kk
theorem J_callS_w {M' : JM} {d' n idx : Nat}  {as : List Value} {g : Option (Int32 × JMu)} {κ : (Int32 × JMu) → Option α} (hd : decode M.2.1 pc = .ok (.invokestatic idx, 3)) (hlk : jWd (.methodLink M.2.2.2.2 idx M'.1)) (hms : jMs M' n) (hw : jWd (.static M'.1)) (hdd : d' + 1 ≤ d) (hn : as.length = n) (hst : (st.map fun v => v.category).sum ≤ 8) (hg : ∀ b, g = some b → JC M' d' Pl as μ (some (.int b.1), b.2)) (kk : ∀ v : Int32 × JMu, JF M d Pl emb (pc + 3) L (.int v.1 :: st) v.2 (κ v)) : JF M d Pl emb pc L (as.reverse ++ st) μ (g.bind κ) := J_callS (emb' := fun q : Int32 × JMu => (some (.int q.1), q.2)) hd hlk hms hw hdd hn hst hg kk
theorem J_callS_v {M' : JM} {d' n idx : Nat}  {as : List Value} {g : Option JMu} {κ : JMu → Option α} (hd : decode M.2.1 pc = .ok (.invokestatic idx, 3)) (hlk : jWd (.methodLink M.2.2.2.2 idx M'.1)) (hms : jMs M' n) (hw : jWd (.static M'.1)) (hdd : d' + 1 ≤ d) (hn : as.length = n) (hst : (st.map fun v => v.category).sum ≤ 8) (hg : ∀ b, g = some b → JC M' d' Pl as μ (none, b)) (kk : ∀ v : JMu, JF M d Pl emb (pc + 3) L st v (κ v)) : JF M d Pl emb pc L (as.reverse ++ st) μ (g.bind κ) := J_callS (emb' := fun q => (none, q)) hd hlk hms hw hdd hn hst hg kk
theorem J_callS_q {M' : JM} {d' n idx : Nat}  {as : List Value} {g : Option (Option Nat)} {κ : (Option Nat) → Option α} (hd : decode M.2.1 pc = .ok (.invokestatic idx, 3)) (hlk : jWd (.methodLink M.2.2.2.2 idx M'.1)) (hms : jMs M' n) (hw : jWd (.static M'.1)) (hdd : d' + 1 ≤ d) (hn : as.length = n) (hst : (st.map fun v => v.category).sum ≤ 8) (hg : ∀ b, g = some b → JC M' d' Pl as μ (some (jn b), μ)) (kk : ∀ v : Option Nat, JF M d Pl emb (pc + 3) L (jn v :: st) μ (κ v)) : JF M d Pl emb pc L (as.reverse ++ st) μ (g.bind κ) := J_callS (emb' := fun q : Option Nat => (some (jn q), μ)) hd hlk hms hw hdd hn hst hg kk
theorem J_callSN_i {M' : JM} {d' n idx : Nat} {host : String} {as : List Value} {g : Option Int32} {κ : Int32 → Option α} (hd : decode M.2.1 pc = .ok (.invokestatic idx, 3)) (hlk : jWd (.methodLinkNest M.2.2.2.2 idx M'.1 host)) (hms : jMs M' n) (hw : jWd (.static M'.1)) (hdd : d' + 1 ≤ d) (hn : as.length = n) (hst : (st.map fun v => v.category).sum ≤ 8) (hg : ∀ b, g = some b → JC M' d' Pl as μ (some (.int b), μ)) (kk : ∀ v : Int32, JF M d Pl emb (pc + 3) L (.int v :: st) μ (κ v)) : JF M d Pl emb pc L (as.reverse ++ st) μ (g.bind κ) := J_callSN (emb' := fun v => (some (.int v), μ)) hd hlk hms hw hdd hn hst hg kk
theorem J_callSN_w {M' : JM} {d' n idx : Nat} {host : String} {as : List Value} {g : Option (Int32 × JMu)} {κ : (Int32 × JMu) → Option α} (hd : decode M.2.1 pc = .ok (.invokestatic idx, 3)) (hlk : jWd (.methodLinkNest M.2.2.2.2 idx M'.1 host)) (hms : jMs M' n) (hw : jWd (.static M'.1)) (hdd : d' + 1 ≤ d) (hn : as.length = n) (hst : (st.map fun v => v.category).sum ≤ 8) (hg : ∀ b, g = some b → JC M' d' Pl as μ (some (.int b.1), b.2)) (kk : ∀ v : Int32 × JMu, JF M d Pl emb (pc + 3) L (.int v.1 :: st) v.2 (κ v)) : JF M d Pl emb pc L (as.reverse ++ st) μ (g.bind κ) := J_callSN (emb' := fun q : Int32 × JMu => (some (.int q.1), q.2)) hd hlk hms hw hdd hn hst hg kk
theorem J_callSN_v {M' : JM} {d' n idx : Nat} {host : String} {as : List Value} {g : Option JMu} {κ : JMu → Option α} (hd : decode M.2.1 pc = .ok (.invokestatic idx, 3)) (hlk : jWd (.methodLinkNest M.2.2.2.2 idx M'.1 host)) (hms : jMs M' n) (hw : jWd (.static M'.1)) (hdd : d' + 1 ≤ d) (hn : as.length = n) (hst : (st.map fun v => v.category).sum ≤ 8) (hg : ∀ b, g = some b → JC M' d' Pl as μ (none, b)) (kk : ∀ v : JMu, JF M d Pl emb (pc + 3) L st v (κ v)) : JF M d Pl emb pc L (as.reverse ++ st) μ (g.bind κ) := J_callSN (emb' := fun q => (none, q)) hd hlk hms hw hdd hn hst hg kk
theorem J_callSN_q {M' : JM} {d' n idx : Nat} {host : String} {as : List Value} {g : Option (Option Nat)} {κ : (Option Nat) → Option α} (hd : decode M.2.1 pc = .ok (.invokestatic idx, 3)) (hlk : jWd (.methodLinkNest M.2.2.2.2 idx M'.1 host)) (hms : jMs M' n) (hw : jWd (.static M'.1)) (hdd : d' + 1 ≤ d) (hn : as.length = n) (hst : (st.map fun v => v.category).sum ≤ 8) (hg : ∀ b, g = some b → JC M' d' Pl as μ (some (jn b), μ)) (kk : ∀ v : Option Nat, JF M d Pl emb (pc + 3) L (jn v :: st) μ (κ v)) : JF M d Pl emb pc L (as.reverse ++ st) μ (g.bind κ) := J_callSN (emb' := fun q : Option Nat => (some (jn q), μ)) hd hlk hms hw hdd hn hst hg kk
theorem J_callV_i {M' : JM} {d' n idx q ci : Nat} {as : List Value} {g : Option Int32} {κ : Int32 → Option α} (hd : decode M.2.1 pc = .ok (.invokevirtual idx, 3)) (hlk : jWd (.methodLink M.2.2.2.2 idx M'.1)) (hms : jMs M' n) (hw : jWd (.instanceMethod M'.1) ∧ jWd (.selects M'.1.cls M'.1 M'.1)) (hO : jO Pl q ci = true) (hci : ∃ (T : u_T) (N : Nat), vwCl[ci]? = some (M'.1.cls, T, N)) (hdd : d' + 1 ≤ d) (hn : as.length = n) (hst : (st.map fun v => v.category).sum ≤ 8) (hg : ∀ b, g = some b → JC M' d' Pl (.ref q :: as) μ (some (.int b), μ)) (kk : ∀ v : Int32, JF M d Pl emb (pc + 3) L (.int v :: st) μ (κ v)) : JF M d Pl emb pc L (as.reverse ++ .ref q :: st) μ (g.bind κ) := J_callV (emb' := fun v => (some (.int v), μ)) hd hlk hms hw hO hci hdd hn hst hg kk
theorem J_callV_w {M' : JM} {d' n idx q ci : Nat} {as : List Value} {g : Option (Int32 × JMu)} {κ : (Int32 × JMu) → Option α} (hd : decode M.2.1 pc = .ok (.invokevirtual idx, 3)) (hlk : jWd (.methodLink M.2.2.2.2 idx M'.1)) (hms : jMs M' n) (hw : jWd (.instanceMethod M'.1) ∧ jWd (.selects M'.1.cls M'.1 M'.1)) (hO : jO Pl q ci = true) (hci : ∃ (T : u_T) (N : Nat), vwCl[ci]? = some (M'.1.cls, T, N)) (hdd : d' + 1 ≤ d) (hn : as.length = n) (hst : (st.map fun v => v.category).sum ≤ 8) (hg : ∀ b, g = some b → JC M' d' Pl (.ref q :: as) μ (some (.int b.1), b.2)) (kk : ∀ v : Int32 × JMu, JF M d Pl emb (pc + 3) L (.int v.1 :: st) v.2 (κ v)) : JF M d Pl emb pc L (as.reverse ++ .ref q :: st) μ (g.bind κ) := J_callV (emb' := fun q : Int32 × JMu => (some (.int q.1), q.2)) hd hlk hms hw hO hci hdd hn hst hg kk
theorem J_callV_v {M' : JM} {d' n idx q ci : Nat} {as : List Value} {g : Option JMu} {κ : JMu → Option α} (hd : decode M.2.1 pc = .ok (.invokevirtual idx, 3)) (hlk : jWd (.methodLink M.2.2.2.2 idx M'.1)) (hms : jMs M' n) (hw : jWd (.instanceMethod M'.1) ∧ jWd (.selects M'.1.cls M'.1 M'.1)) (hO : jO Pl q ci = true) (hci : ∃ (T : u_T) (N : Nat), vwCl[ci]? = some (M'.1.cls, T, N)) (hdd : d' + 1 ≤ d) (hn : as.length = n) (hst : (st.map fun v => v.category).sum ≤ 8) (hg : ∀ b, g = some b → JC M' d' Pl (.ref q :: as) μ (none, b)) (kk : ∀ v : JMu, JF M d Pl emb (pc + 3) L st v (κ v)) : JF M d Pl emb pc L (as.reverse ++ .ref q :: st) μ (g.bind κ) := J_callV (emb' := fun q => (none, q)) hd hlk hms hw hO hci hdd hn hst hg kk
theorem J_callV_q {M' : JM} {d' n idx q ci : Nat} {as : List Value} {g : Option (Option Nat)} {κ : (Option Nat) → Option α} (hd : decode M.2.1 pc = .ok (.invokevirtual idx, 3)) (hlk : jWd (.methodLink M.2.2.2.2 idx M'.1)) (hms : jMs M' n) (hw : jWd (.instanceMethod M'.1) ∧ jWd (.selects M'.1.cls M'.1 M'.1)) (hO : jO Pl q ci = true) (hci : ∃ (T : u_T) (N : Nat), vwCl[ci]? = some (M'.1.cls, T, N)) (hdd : d' + 1 ≤ d) (hn : as.length = n) (hst : (st.map fun v => v.category).sum ≤ 8) (hg : ∀ b, g = some b → JC M' d' Pl (.ref q :: as) μ (some (jn b), μ)) (kk : ∀ v : Option Nat, JF M d Pl emb (pc + 3) L (jn v :: st) μ (κ v)) : JF M d Pl emb pc L (as.reverse ++ .ref q :: st) μ (g.bind κ) := J_callV (emb' := fun q : Option Nat => (some (jn q), μ)) hd hlk hms hw hO hci hdd hn hst hg kk
end JR2
end

section
-- ===== PART A: goes FIRST, ahead of the names: the tables' words, and 'selects' of the private methods out of them =====
/-- a private method of a class that the tables say can be made, by its rows of tables_1 -/
def lw_okq (q : MethodName × Nat) : Prop := (q.1.cls ≠ "java/lang/invoke/MethodHandle" ∧ q.1.cls ≠ "java/lang/invoke/VarHandle") ∧ Cond.instantiable q.1.cls q.2 ∈ tables_1 ∧ Cond.privateMethod q.1 ∈ tables_1 ∧ Cond.instanceMethod q.1 ∈ tables_1
theorem lw_p0 : lw_okq (⟨"MoonRooms", "fail", "(I)I"⟩, 9) := ⟨⟨by decide +kernel, by decide +kernel⟩, List.mem_of_getElem? (i := 19) (by decide +kernel), List.mem_of_getElem? (i := 253) (by decide +kernel), List.mem_of_getElem? (i := 254) (by decide +kernel)⟩
theorem lw_p1 : lw_okq (⟨"MoonRooms$Law", "workOut", "(III)I"⟩, 3) := ⟨⟨by decide +kernel, by decide +kernel⟩, List.mem_of_getElem? (i := 56) (by decide +kernel), List.mem_of_getElem? (i := 270) (by decide +kernel), List.mem_of_getElem? (i := 271) (by decide +kernel)⟩
theorem lw_p2 : lw_okq (⟨"MoonRooms$Reader", "readLevel", "(II)Z"⟩, 4) := ⟨⟨by decide +kernel, by decide +kernel⟩, List.mem_of_getElem? (i := 142) (by decide +kernel), List.mem_of_getElem? (i := 422) (by decide +kernel), List.mem_of_getElem? (i := 423) (by decide +kernel)⟩
theorem lw_p3 : lw_okq (⟨"MoonRooms$Reader", "readSingle", "(I)Z"⟩, 4) := ⟨⟨by decide +kernel, by decide +kernel⟩, List.mem_of_getElem? (i := 142) (by decide +kernel), List.mem_of_getElem? (i := 426) (by decide +kernel), List.mem_of_getElem? (i := 427) (by decide +kernel)⟩
theorem lw_p4 : lw_okq (⟨"MoonRooms$Reader", "here", "()I"⟩, 4) := ⟨⟨by decide +kernel, by decide +kernel⟩, List.mem_of_getElem? (i := 142) (by decide +kernel), List.mem_of_getElem? (i := 430) (by decide +kernel), List.mem_of_getElem? (i := 431) (by decide +kernel)⟩
theorem lw_p5 : lw_okq (⟨"MoonRooms$Reader", "readNumber", "()V"⟩, 4) := ⟨⟨by decide +kernel, by decide +kernel⟩, List.mem_of_getElem? (i := 142) (by decide +kernel), List.mem_of_getElem? (i := 442) (by decide +kernel), List.mem_of_getElem? (i := 443) (by decide +kernel)⟩
theorem lw_p6 : lw_okq (⟨"MoonRooms$Reader", "nameOf", "(I)I"⟩, 4) := ⟨⟨by decide +kernel, by decide +kernel⟩, List.mem_of_getElem? (i := 142) (by decide +kernel), List.mem_of_getElem? (i := 447) (by decide +kernel), List.mem_of_getElem? (i := 448) (by decide +kernel)⟩
theorem lw_p7 : lw_okq (⟨"MoonRooms$Reader", "readNot", "(I)Z"⟩, 4) := ⟨⟨by decide +kernel, by decide +kernel⟩, List.mem_of_getElem? (i := 142) (by decide +kernel), List.mem_of_getElem? (i := 451) (by decide +kernel), List.mem_of_getElem? (i := 452) (by decide +kernel)⟩
theorem lw_p8 : lw_okq (⟨"MoonRooms$Reader", "readClosed", "(I)Z"⟩, 4) := ⟨⟨by decide +kernel, by decide +kernel⟩, List.mem_of_getElem? (i := 142) (by decide +kernel), List.mem_of_getElem? (i := 455) (by decide +kernel), List.mem_of_getElem? (i := 456) (by decide +kernel)⟩
theorem lw_p9 : lw_okq (⟨"MoonRooms$House", "earnAll", "()V"⟩, 9) := ⟨⟨by decide +kernel, by decide +kernel⟩, List.mem_of_getElem? (i := 27) (by decide +kernel), List.mem_of_getElem? (i := 485) (by decide +kernel), List.mem_of_getElem? (i := 486) (by decide +kernel)⟩
theorem lw_p10 : lw_okq (⟨"MoonRooms$Tenant", "wages", "(I)I"⟩, 5) := ⟨⟨by decide +kernel, by decide +kernel⟩, List.mem_of_getElem? (i := 74) (by decide +kernel), List.mem_of_getElem? (i := 496) (by decide +kernel), List.mem_of_getElem? (i := 497) (by decide +kernel)⟩
theorem lw_p11 : lw_okq (⟨"MoonRooms$House", "payAll", "()V"⟩, 9) := ⟨⟨by decide +kernel, by decide +kernel⟩, List.mem_of_getElem? (i := 27) (by decide +kernel), List.mem_of_getElem? (i := 501) (by decide +kernel), List.mem_of_getElem? (i := 502) (by decide +kernel)⟩
theorem lw_p12 : lw_okq (⟨"MoonRooms$House", "draw", "()I"⟩, 9) := ⟨⟨by decide +kernel, by decide +kernel⟩, List.mem_of_getElem? (i := 27) (by decide +kernel), List.mem_of_getElem? (i := 520) (by decide +kernel), List.mem_of_getElem? (i := 521) (by decide +kernel)⟩
theorem lw_p13 : lw_okq (⟨"MoonRooms$House", "isPeaceWithout", "(I)Z"⟩, 9) := ⟨⟨by decide +kernel, by decide +kernel⟩, List.mem_of_getElem? (i := 27) (by decide +kernel), List.mem_of_getElem? (i := 570) (by decide +kernel), List.mem_of_getElem? (i := 571) (by decide +kernel)⟩
theorem lw_p14 : lw_okq (⟨"MoonRooms", "findSheet", "(I)LMoonRooms$Sheet;"⟩, 9) := ⟨⟨by decide +kernel, by decide +kernel⟩, List.mem_of_getElem? (i := 19) (by decide +kernel), List.mem_of_getElem? (i := 592) (by decide +kernel), List.mem_of_getElem? (i := 593) (by decide +kernel)⟩
theorem lw_p15 : lw_okq (⟨"MoonRooms$Wishes", "wishedBy", "(I)I"⟩, 1) := ⟨⟨by decide +kernel, by decide +kernel⟩, List.mem_of_getElem? (i := 186) (by decide +kernel), List.mem_of_getElem? (i := 603) (by decide +kernel), List.mem_of_getElem? (i := 604) (by decide +kernel)⟩
def lw_privs_1 : List (MethodName × Nat) := [(⟨"MoonRooms", "fail", "(I)I"⟩, 9), (⟨"MoonRooms$Law", "workOut", "(III)I"⟩, 3), (⟨"MoonRooms$Reader", "readLevel", "(II)Z"⟩, 4), (⟨"MoonRooms$Reader", "readSingle", "(I)Z"⟩, 4), (⟨"MoonRooms$Reader", "here", "()I"⟩, 4), (⟨"MoonRooms$Reader", "readNumber", "()V"⟩, 4), (⟨"MoonRooms$Reader", "nameOf", "(I)I"⟩, 4), (⟨"MoonRooms$Reader", "readNot", "(I)Z"⟩, 4), (⟨"MoonRooms$Reader", "readClosed", "(I)Z"⟩, 4), (⟨"MoonRooms$House", "earnAll", "()V"⟩, 9), (⟨"MoonRooms$Tenant", "wages", "(I)I"⟩, 5), (⟨"MoonRooms$House", "payAll", "()V"⟩, 9), (⟨"MoonRooms$House", "draw", "()I"⟩, 9), (⟨"MoonRooms$House", "isPeaceWithout", "(I)Z"⟩, 9), (⟨"MoonRooms", "findSheet", "(I)LMoonRooms$Sheet;"⟩, 9), (⟨"MoonRooms$Wishes", "wishedBy", "(I)I"⟩, 1)]
theorem lw_r1 : ∀ q ∈ lw_privs_1, lw_okq q := List.forall_mem_cons.mpr ⟨lw_p0, List.forall_mem_cons.mpr ⟨lw_p1, List.forall_mem_cons.mpr ⟨lw_p2, List.forall_mem_cons.mpr ⟨lw_p3, List.forall_mem_cons.mpr ⟨lw_p4, List.forall_mem_cons.mpr ⟨lw_p5, List.forall_mem_cons.mpr ⟨lw_p6, List.forall_mem_cons.mpr ⟨lw_p7, List.forall_mem_cons.mpr ⟨lw_p8, List.forall_mem_cons.mpr ⟨lw_p9, List.forall_mem_cons.mpr ⟨lw_p10, List.forall_mem_cons.mpr ⟨lw_p11, List.forall_mem_cons.mpr ⟨lw_p12, List.forall_mem_cons.mpr ⟨lw_p13, List.forall_mem_cons.mpr ⟨lw_p14, List.forall_mem_cons.mpr ⟨lw_p15, fun _ h => absurd h List.not_mem_nil⟩⟩⟩⟩⟩⟩⟩⟩⟩⟩⟩⟩⟩⟩⟩⟩
theorem lw_p16 : lw_okq (⟨"MoonRooms$Wishes", "firstRoom", "(II)I"⟩, 1) := ⟨⟨by decide +kernel, by decide +kernel⟩, List.mem_of_getElem? (i := 186) (by decide +kernel), List.mem_of_getElem? (i := 614) (by decide +kernel), List.mem_of_getElem? (i := 615) (by decide +kernel)⟩
theorem lw_p17 : lw_okq (⟨"MoonRooms$Speaker", "say", "(IIII)I"⟩, 4) := ⟨⟨by decide +kernel, by decide +kernel⟩, List.mem_of_getElem? (i := 164) (by decide +kernel), List.mem_of_getElem? (i := 644) (by decide +kernel), List.mem_of_getElem? (i := 645) (by decide +kernel)⟩
theorem lw_p18 : lw_okq (⟨"MoonRoomsModel", "finding", "(I)I"⟩, 26) := ⟨⟨by decide +kernel, by decide +kernel⟩, List.mem_of_getElem? (i := 719) (by decide +kernel), List.mem_of_getElem? (i := 817) (by decide +kernel), List.mem_of_getElem? (i := 818) (by decide +kernel)⟩
theorem lw_p19 : lw_okq (⟨"MoonRoomsModel", "either", "()V"⟩, 26) := ⟨⟨by decide +kernel, by decide +kernel⟩, List.mem_of_getElem? (i := 719) (by decide +kernel), List.mem_of_getElem? (i := 828) (by decide +kernel), List.mem_of_getElem? (i := 829) (by decide +kernel)⟩
theorem lw_p20 : lw_okq (⟨"MoonRoomsModel", "both", "()V"⟩, 26) := ⟨⟨by decide +kernel, by decide +kernel⟩, List.mem_of_getElem? (i := 719) (by decide +kernel), List.mem_of_getElem? (i := 832) (by decide +kernel), List.mem_of_getElem? (i := 833) (by decide +kernel)⟩
theorem lw_p21 : lw_okq (⟨"MoonRoomsModel", "compared", "()V"⟩, 26) := ⟨⟨by decide +kernel, by decide +kernel⟩, List.mem_of_getElem? (i := 719) (by decide +kernel), List.mem_of_getElem? (i := 836) (by decide +kernel), List.mem_of_getElem? (i := 837) (by decide +kernel)⟩
theorem lw_p22 : lw_okq (⟨"MoonRoomsModel", "sum", "()V"⟩, 26) := ⟨⟨by decide +kernel, by decide +kernel⟩, List.mem_of_getElem? (i := 719) (by decide +kernel), List.mem_of_getElem? (i := 840) (by decide +kernel), List.mem_of_getElem? (i := 841) (by decide +kernel)⟩
theorem lw_p23 : lw_okq (⟨"MoonRoomsModel", "product", "()V"⟩, 26) := ⟨⟨by decide +kernel, by decide +kernel⟩, List.mem_of_getElem? (i := 719) (by decide +kernel), List.mem_of_getElem? (i := 844) (by decide +kernel), List.mem_of_getElem? (i := 845) (by decide +kernel)⟩
theorem lw_p24 : lw_okq (⟨"MoonRoomsModel", "one", "()V"⟩, 26) := ⟨⟨by decide +kernel, by decide +kernel⟩, List.mem_of_getElem? (i := 719) (by decide +kernel), List.mem_of_getElem? (i := 848) (by decide +kernel), List.mem_of_getElem? (i := 849) (by decide +kernel)⟩
theorem lw_p25 : lw_okq (⟨"MoonRoomsModel", "here", "()I"⟩, 26) := ⟨⟨by decide +kernel, by decide +kernel⟩, List.mem_of_getElem? (i := 719) (by decide +kernel), List.mem_of_getElem? (i := 852) (by decide +kernel), List.mem_of_getElem? (i := 853) (by decide +kernel)⟩
theorem lw_p26 : lw_okq (⟨"MoonRoomsModel", "codes", "(I)V"⟩, 26) := ⟨⟨by decide +kernel, by decide +kernel⟩, List.mem_of_getElem? (i := 719) (by decide +kernel), List.mem_of_getElem? (i := 856) (by decide +kernel), List.mem_of_getElem? (i := 857) (by decide +kernel)⟩
theorem lw_p27 : lw_okq (⟨"MoonRoomsModel", "takes", "(I)Z"⟩, 26) := ⟨⟨by decide +kernel, by decide +kernel⟩, List.mem_of_getElem? (i := 719) (by decide +kernel), List.mem_of_getElem? (i := 860) (by decide +kernel), List.mem_of_getElem? (i := 861) (by decide +kernel)⟩
theorem lw_p28 : lw_okq (⟨"MoonRoomsModel", "nameOf", "(I)I"⟩, 26) := ⟨⟨by decide +kernel, by decide +kernel⟩, List.mem_of_getElem? (i := 719) (by decide +kernel), List.mem_of_getElem? (i := 864) (by decide +kernel), List.mem_of_getElem? (i := 865) (by decide +kernel)⟩
theorem lw_p29 : lw_okq (⟨"MoonRoomsModel", "given", "(IIII)I"⟩, 26) := ⟨⟨by decide +kernel, by decide +kernel⟩, List.mem_of_getElem? (i := 719) (by decide +kernel), List.mem_of_getElem? (i := 920) (by decide +kernel), List.mem_of_getElem? (i := 921) (by decide +kernel)⟩
theorem lw_p30 : lw_okq (⟨"MoonRoomsModel", "hasText", "(I)Z"⟩, 26) := ⟨⟨by decide +kernel, by decide +kernel⟩, List.mem_of_getElem? (i := 719) (by decide +kernel), List.mem_of_getElem? (i := 924) (by decide +kernel), List.mem_of_getElem? (i := 925) (by decide +kernel)⟩
theorem lw_p31 : lw_okq (⟨"MoonRoomsModel", "worked", "(I)I"⟩, 26) := ⟨⟨by decide +kernel, by decide +kernel⟩, List.mem_of_getElem? (i := 719) (by decide +kernel), List.mem_of_getElem? (i := 928) (by decide +kernel), List.mem_of_getElem? (i := 929) (by decide +kernel)⟩
def lw_privs_2 : List (MethodName × Nat) := [(⟨"MoonRooms$Wishes", "firstRoom", "(II)I"⟩, 1), (⟨"MoonRooms$Speaker", "say", "(IIII)I"⟩, 4), (⟨"MoonRoomsModel", "finding", "(I)I"⟩, 26), (⟨"MoonRoomsModel", "either", "()V"⟩, 26), (⟨"MoonRoomsModel", "both", "()V"⟩, 26), (⟨"MoonRoomsModel", "compared", "()V"⟩, 26), (⟨"MoonRoomsModel", "sum", "()V"⟩, 26), (⟨"MoonRoomsModel", "product", "()V"⟩, 26), (⟨"MoonRoomsModel", "one", "()V"⟩, 26), (⟨"MoonRoomsModel", "here", "()I"⟩, 26), (⟨"MoonRoomsModel", "codes", "(I)V"⟩, 26), (⟨"MoonRoomsModel", "takes", "(I)Z"⟩, 26), (⟨"MoonRoomsModel", "nameOf", "(I)I"⟩, 26), (⟨"MoonRoomsModel", "given", "(IIII)I"⟩, 26), (⟨"MoonRoomsModel", "hasText", "(I)Z"⟩, 26), (⟨"MoonRoomsModel", "worked", "(I)I"⟩, 26)]
theorem lw_r2 : ∀ q ∈ lw_privs_2, lw_okq q := List.forall_mem_cons.mpr ⟨lw_p16, List.forall_mem_cons.mpr ⟨lw_p17, List.forall_mem_cons.mpr ⟨lw_p18, List.forall_mem_cons.mpr ⟨lw_p19, List.forall_mem_cons.mpr ⟨lw_p20, List.forall_mem_cons.mpr ⟨lw_p21, List.forall_mem_cons.mpr ⟨lw_p22, List.forall_mem_cons.mpr ⟨lw_p23, List.forall_mem_cons.mpr ⟨lw_p24, List.forall_mem_cons.mpr ⟨lw_p25, List.forall_mem_cons.mpr ⟨lw_p26, List.forall_mem_cons.mpr ⟨lw_p27, List.forall_mem_cons.mpr ⟨lw_p28, List.forall_mem_cons.mpr ⟨lw_p29, List.forall_mem_cons.mpr ⟨lw_p30, List.forall_mem_cons.mpr ⟨lw_p31, fun _ h => absurd h List.not_mem_nil⟩⟩⟩⟩⟩⟩⟩⟩⟩⟩⟩⟩⟩⟩⟩⟩
theorem lw_p32 : lw_okq (⟨"MoonRoomsModel", "litNow", "()I"⟩, 26) := ⟨⟨by decide +kernel, by decide +kernel⟩, List.mem_of_getElem? (i := 719) (by decide +kernel), List.mem_of_getElem? (i := 947) (by decide +kernel), List.mem_of_getElem? (i := 948) (by decide +kernel)⟩
theorem lw_p33 : lw_okq (⟨"MoonRoomsModel", "phase", "()I"⟩, 26) := ⟨⟨by decide +kernel, by decide +kernel⟩, List.mem_of_getElem? (i := 719) (by decide +kernel), List.mem_of_getElem? (i := 951) (by decide +kernel), List.mem_of_getElem? (i := 952) (by decide +kernel)⟩
theorem lw_p34 : lw_okq (⟨"MoonRoomsModel", "seenNow", "()I"⟩, 26) := ⟨⟨by decide +kernel, by decide +kernel⟩, List.mem_of_getElem? (i := 719) (by decide +kernel), List.mem_of_getElem? (i := 962) (by decide +kernel), List.mem_of_getElem? (i := 963) (by decide +kernel)⟩
theorem lw_p35 : lw_okq (⟨"MoonRoomsModel", "isCloudy", "()Z"⟩, 26) := ⟨⟨by decide +kernel, by decide +kernel⟩, List.mem_of_getElem? (i := 719) (by decide +kernel), List.mem_of_getElem? (i := 966) (by decide +kernel), List.mem_of_getElem? (i := 967) (by decide +kernel)⟩
theorem lw_p36 : lw_okq (⟨"MoonRoomsModel", "rentOf", "(I)I"⟩, 26) := ⟨⟨by decide +kernel, by decide +kernel⟩, List.mem_of_getElem? (i := 719) (by decide +kernel), List.mem_of_getElem? (i := 970) (by decide +kernel), List.mem_of_getElem? (i := 971) (by decide +kernel)⟩
theorem lw_p37 : lw_okq (⟨"MoonRoomsModel", "holders", "(I)I"⟩, 26) := ⟨⟨by decide +kernel, by decide +kernel⟩, List.mem_of_getElem? (i := 719) (by decide +kernel), List.mem_of_getElem? (i := 974) (by decide +kernel), List.mem_of_getElem? (i := 975) (by decide +kernel)⟩
theorem lw_p38 : lw_okq (⟨"MoonRoomsModel", "tenantIs", "(II)I"⟩, 26) := ⟨⟨by decide +kernel, by decide +kernel⟩, List.mem_of_getElem? (i := 719) (by decide +kernel), List.mem_of_getElem? (i := 978) (by decide +kernel), List.mem_of_getElem? (i := 979) (by decide +kernel)⟩
theorem lw_p39 : lw_okq (⟨"MoonRoomsModel", "turn", "(II)I"⟩, 26) := ⟨⟨by decide +kernel, by decide +kernel⟩, List.mem_of_getElem? (i := 719) (by decide +kernel), List.mem_of_getElem? (i := 999) (by decide +kernel), List.mem_of_getElem? (i := 1000) (by decide +kernel)⟩
theorem lw_p40 : lw_okq (⟨"MoonRoomsModel", "comes", "(I)I"⟩, 26) := ⟨⟨by decide +kernel, by decide +kernel⟩, List.mem_of_getElem? (i := 719) (by decide +kernel), List.mem_of_getElem? (i := 1010) (by decide +kernel), List.mem_of_getElem? (i := 1011) (by decide +kernel)⟩
theorem lw_p41 : lw_okq (⟨"MoonRoomsModel", "isTenant", "(I)Z"⟩, 26) := ⟨⟨by decide +kernel, by decide +kernel⟩, List.mem_of_getElem? (i := 719) (by decide +kernel), List.mem_of_getElem? (i := 1018) (by decide +kernel), List.mem_of_getElem? (i := 1019) (by decide +kernel)⟩
theorem lw_p42 : lw_okq (⟨"MoonRoomsModel", "looks", "(I)Z"⟩, 26) := ⟨⟨by decide +kernel, by decide +kernel⟩, List.mem_of_getElem? (i := 719) (by decide +kernel), List.mem_of_getElem? (i := 1023) (by decide +kernel), List.mem_of_getElem? (i := 1024) (by decide +kernel)⟩
theorem lw_p43 : lw_okq (⟨"MoonRoomsModel", "isOf", "(II)Z"⟩, 26) := ⟨⟨by decide +kernel, by decide +kernel⟩, List.mem_of_getElem? (i := 719) (by decide +kernel), List.mem_of_getElem? (i := 1027) (by decide +kernel), List.mem_of_getElem? (i := 1028) (by decide +kernel)⟩
theorem lw_p44 : lw_okq (⟨"MoonRoomsModel", "owes", "(I)I"⟩, 26) := ⟨⟨by decide +kernel, by decide +kernel⟩, List.mem_of_getElem? (i := 719) (by decide +kernel), List.mem_of_getElem? (i := 1037) (by decide +kernel), List.mem_of_getElem? (i := 1038) (by decide +kernel)⟩
theorem lw_p45 : lw_okq (⟨"MoonRoomsModel", "othersIn", "(I)I"⟩, 26) := ⟨⟨by decide +kernel, by decide +kernel⟩, List.mem_of_getElem? (i := 719) (by decide +kernel), List.mem_of_getElem? (i := 1041) (by decide +kernel), List.mem_of_getElem? (i := 1042) (by decide +kernel)⟩
theorem lw_p46 : lw_okq (⟨"MoonRoomsModel", "isOut", "(I)Z"⟩, 26) := ⟨⟨by decide +kernel, by decide +kernel⟩, List.mem_of_getElem? (i := 719) (by decide +kernel), List.mem_of_getElem? (i := 1062) (by decide +kernel), List.mem_of_getElem? (i := 1063) (by decide +kernel)⟩
theorem lw_p47 : lw_okq (⟨"MoonRoomsModel", "manyOut", "()I"⟩, 26) := ⟨⟨by decide +kernel, by decide +kernel⟩, List.mem_of_getElem? (i := 719) (by decide +kernel), List.mem_of_getElem? (i := 1075) (by decide +kernel), List.mem_of_getElem? (i := 1076) (by decide +kernel)⟩
def lw_privs_3 : List (MethodName × Nat) := [(⟨"MoonRoomsModel", "litNow", "()I"⟩, 26), (⟨"MoonRoomsModel", "phase", "()I"⟩, 26), (⟨"MoonRoomsModel", "seenNow", "()I"⟩, 26), (⟨"MoonRoomsModel", "isCloudy", "()Z"⟩, 26), (⟨"MoonRoomsModel", "rentOf", "(I)I"⟩, 26), (⟨"MoonRoomsModel", "holders", "(I)I"⟩, 26), (⟨"MoonRoomsModel", "tenantIs", "(II)I"⟩, 26), (⟨"MoonRoomsModel", "turn", "(II)I"⟩, 26), (⟨"MoonRoomsModel", "comes", "(I)I"⟩, 26), (⟨"MoonRoomsModel", "isTenant", "(I)Z"⟩, 26), (⟨"MoonRoomsModel", "looks", "(I)Z"⟩, 26), (⟨"MoonRoomsModel", "isOf", "(II)Z"⟩, 26), (⟨"MoonRoomsModel", "owes", "(I)I"⟩, 26), (⟨"MoonRoomsModel", "othersIn", "(I)I"⟩, 26), (⟨"MoonRoomsModel", "isOut", "(I)Z"⟩, 26), (⟨"MoonRoomsModel", "manyOut", "()I"⟩, 26)]
theorem lw_r3 : ∀ q ∈ lw_privs_3, lw_okq q := List.forall_mem_cons.mpr ⟨lw_p32, List.forall_mem_cons.mpr ⟨lw_p33, List.forall_mem_cons.mpr ⟨lw_p34, List.forall_mem_cons.mpr ⟨lw_p35, List.forall_mem_cons.mpr ⟨lw_p36, List.forall_mem_cons.mpr ⟨lw_p37, List.forall_mem_cons.mpr ⟨lw_p38, List.forall_mem_cons.mpr ⟨lw_p39, List.forall_mem_cons.mpr ⟨lw_p40, List.forall_mem_cons.mpr ⟨lw_p41, List.forall_mem_cons.mpr ⟨lw_p42, List.forall_mem_cons.mpr ⟨lw_p43, List.forall_mem_cons.mpr ⟨lw_p44, List.forall_mem_cons.mpr ⟨lw_p45, List.forall_mem_cons.mpr ⟨lw_p46, List.forall_mem_cons.mpr ⟨lw_p47, fun _ h => absurd h List.not_mem_nil⟩⟩⟩⟩⟩⟩⟩⟩⟩⟩⟩⟩⟩⟩⟩⟩
theorem lw_p48 : lw_okq (⟨"MoonRoomsModel", "pass", "(I)V"⟩, 26) := ⟨⟨by decide +kernel, by decide +kernel⟩, List.mem_of_getElem? (i := 719) (by decide +kernel), List.mem_of_getElem? (i := 1083) (by decide +kernel), List.mem_of_getElem? (i := 1084) (by decide +kernel)⟩
theorem lw_p49 : lw_okq (⟨"MoonRoomsModel", "night", "()V"⟩, 26) := ⟨⟨by decide +kernel, by decide +kernel⟩, List.mem_of_getElem? (i := 719) (by decide +kernel), List.mem_of_getElem? (i := 1087) (by decide +kernel), List.mem_of_getElem? (i := 1088) (by decide +kernel)⟩
theorem lw_p50 : lw_okq (⟨"MoonRoomsModel", "earns", "(I)I"⟩, 26) := ⟨⟨by decide +kernel, by decide +kernel⟩, List.mem_of_getElem? (i := 719) (by decide +kernel), List.mem_of_getElem? (i := 1091) (by decide +kernel), List.mem_of_getElem? (i := 1092) (by decide +kernel)⟩
theorem lw_p51 : lw_okq (⟨"MoonRoomsModel", "pays", "(I)V"⟩, 26) := ⟨⟨by decide +kernel, by decide +kernel⟩, List.mem_of_getElem? (i := 719) (by decide +kernel), List.mem_of_getElem? (i := 1095) (by decide +kernel), List.mem_of_getElem? (i := 1096) (by decide +kernel)⟩
theorem lw_p52 : lw_okq (⟨"MoonRoomsModel", "drawn", "()I"⟩, 26) := ⟨⟨by decide +kernel, by decide +kernel⟩, List.mem_of_getElem? (i := 719) (by decide +kernel), List.mem_of_getElem? (i := 1103) (by decide +kernel), List.mem_of_getElem? (i := 1104) (by decide +kernel)⟩
theorem lw_p53 : lw_okq (⟨"MoonRoomsModel", "takesByDraws", "()V"⟩, 26) := ⟨⟨by decide +kernel, by decide +kernel⟩, List.mem_of_getElem? (i := 719) (by decide +kernel), List.mem_of_getElem? (i := 1108) (by decide +kernel), List.mem_of_getElem? (i := 1109) (by decide +kernel)⟩
theorem lw_p54 : lw_okq (⟨"MoonRoomsModel", "putBack", "(I)I"⟩, 26) := ⟨⟨by decide +kernel, by decide +kernel⟩, List.mem_of_getElem? (i := 719) (by decide +kernel), List.mem_of_getElem? (i := 1119) (by decide +kernel), List.mem_of_getElem? (i := 1120) (by decide +kernel)⟩
theorem lw_p55 : lw_okq (⟨"MoonRoomsModel", "clashBut", "(I)I"⟩, 26) := ⟨⟨by decide +kernel, by decide +kernel⟩, List.mem_of_getElem? (i := 719) (by decide +kernel), List.mem_of_getElem? (i := 1140) (by decide +kernel), List.mem_of_getElem? (i := 1141) (by decide +kernel)⟩
theorem lw_p56 : lw_okq (⟨"MoonRoomsModel", "clashes", "(II)Z"⟩, 26) := ⟨⟨by decide +kernel, by decide +kernel⟩, List.mem_of_getElem? (i := 719) (by decide +kernel), List.mem_of_getElem? (i := 1144) (by decide +kernel), List.mem_of_getElem? (i := 1145) (by decide +kernel)⟩
theorem lw_p57 : lw_okq (⟨"MoonRoomsModel", "tellsWishes", "(I)Z"⟩, 26) := ⟨⟨by decide +kernel, by decide +kernel⟩, List.mem_of_getElem? (i := 719) (by decide +kernel), List.mem_of_getElem? (i := 1163) (by decide +kernel), List.mem_of_getElem? (i := 1164) (by decide +kernel)⟩
theorem lw_p58 : lw_okq (⟨"MoonRoomsModel", "mostRooms", "()I"⟩, 26) := ⟨⟨by decide +kernel, by decide +kernel⟩, List.mem_of_getElem? (i := 719) (by decide +kernel), List.mem_of_getElem? (i := 1167) (by decide +kernel), List.mem_of_getElem? (i := 1168) (by decide +kernel)⟩
theorem lw_p59 : lw_okq (⟨"MoonRoomsModel", "gets", "(I)Z"⟩, 26) := ⟨⟨by decide +kernel, by decide +kernel⟩, List.mem_of_getElem? (i := 719) (by decide +kernel), List.mem_of_getElem? (i := 1171) (by decide +kernel), List.mem_of_getElem? (i := 1172) (by decide +kernel)⟩
theorem lw_p60 : lw_okq (⟨"MoonRoomsModel", "settle", "(I)V"⟩, 26) := ⟨⟨by decide +kernel, by decide +kernel⟩, List.mem_of_getElem? (i := 719) (by decide +kernel), List.mem_of_getElem? (i := 1175) (by decide +kernel), List.mem_of_getElem? (i := 1176) (by decide +kernel)⟩
theorem lw_p61 : lw_okq (⟨"MoonRoomsModel", "isAlone", "(I)Z"⟩, 26) := ⟨⟨by decide +kernel, by decide +kernel⟩, List.mem_of_getElem? (i := 719) (by decide +kernel), List.mem_of_getElem? (i := 1179) (by decide +kernel), List.mem_of_getElem? (i := 1180) (by decide +kernel)⟩
theorem lw_p62 : lw_okq (⟨"MoonRoomsModel", "looksOf", "(I)I"⟩, 26) := ⟨⟨by decide +kernel, by decide +kernel⟩, List.mem_of_getElem? (i := 719) (by decide +kernel), List.mem_of_getElem? (i := 1203) (by decide +kernel), List.mem_of_getElem? (i := 1204) (by decide +kernel)⟩
theorem lw_p63 : lw_okq (⟨"MoonRoomsModel", "runs", "(I)V"⟩, 26) := ⟨⟨by decide +kernel, by decide +kernel⟩, List.mem_of_getElem? (i := 719) (by decide +kernel), List.mem_of_getElem? (i := 1207) (by decide +kernel), List.mem_of_getElem? (i := 1208) (by decide +kernel)⟩
def lw_privs_4 : List (MethodName × Nat) := [(⟨"MoonRoomsModel", "pass", "(I)V"⟩, 26), (⟨"MoonRoomsModel", "night", "()V"⟩, 26), (⟨"MoonRoomsModel", "earns", "(I)I"⟩, 26), (⟨"MoonRoomsModel", "pays", "(I)V"⟩, 26), (⟨"MoonRoomsModel", "drawn", "()I"⟩, 26), (⟨"MoonRoomsModel", "takesByDraws", "()V"⟩, 26), (⟨"MoonRoomsModel", "putBack", "(I)I"⟩, 26), (⟨"MoonRoomsModel", "clashBut", "(I)I"⟩, 26), (⟨"MoonRoomsModel", "clashes", "(II)Z"⟩, 26), (⟨"MoonRoomsModel", "tellsWishes", "(I)Z"⟩, 26), (⟨"MoonRoomsModel", "mostRooms", "()I"⟩, 26), (⟨"MoonRoomsModel", "gets", "(I)Z"⟩, 26), (⟨"MoonRoomsModel", "settle", "(I)V"⟩, 26), (⟨"MoonRoomsModel", "isAlone", "(I)Z"⟩, 26), (⟨"MoonRoomsModel", "looksOf", "(I)I"⟩, 26), (⟨"MoonRoomsModel", "runs", "(I)V"⟩, 26)]
theorem lw_r4 : ∀ q ∈ lw_privs_4, lw_okq q := List.forall_mem_cons.mpr ⟨lw_p48, List.forall_mem_cons.mpr ⟨lw_p49, List.forall_mem_cons.mpr ⟨lw_p50, List.forall_mem_cons.mpr ⟨lw_p51, List.forall_mem_cons.mpr ⟨lw_p52, List.forall_mem_cons.mpr ⟨lw_p53, List.forall_mem_cons.mpr ⟨lw_p54, List.forall_mem_cons.mpr ⟨lw_p55, List.forall_mem_cons.mpr ⟨lw_p56, List.forall_mem_cons.mpr ⟨lw_p57, List.forall_mem_cons.mpr ⟨lw_p58, List.forall_mem_cons.mpr ⟨lw_p59, List.forall_mem_cons.mpr ⟨lw_p60, List.forall_mem_cons.mpr ⟨lw_p61, List.forall_mem_cons.mpr ⟨lw_p62, List.forall_mem_cons.mpr ⟨lw_p63, fun _ h => absurd h List.not_mem_nil⟩⟩⟩⟩⟩⟩⟩⟩⟩⟩⟩⟩⟩⟩⟩⟩
theorem lw_p64 : lw_okq (⟨"MoonRoomsModel", "paysOf", "(I)I"⟩, 26) := ⟨⟨by decide +kernel, by decide +kernel⟩, List.mem_of_getElem? (i := 719) (by decide +kernel), List.mem_of_getElem? (i := 1211) (by decide +kernel), List.mem_of_getElem? (i := 1212) (by decide +kernel)⟩
theorem lw_p65 : lw_okq (⟨"MoonRoomsModel", "holdsOf", "(I)I"⟩, 26) := ⟨⟨by decide +kernel, by decide +kernel⟩, List.mem_of_getElem? (i := 719) (by decide +kernel), List.mem_of_getElem? (i := 1215) (by decide +kernel), List.mem_of_getElem? (i := 1216) (by decide +kernel)⟩
theorem lw_p66 : lw_okq (⟨"MoonRoomsModel", "tellsOf", "(I)I"⟩, 26) := ⟨⟨by decide +kernel, by decide +kernel⟩, List.mem_of_getElem? (i := 719) (by decide +kernel), List.mem_of_getElem? (i := 1219) (by decide +kernel), List.mem_of_getElem? (i := 1220) (by decide +kernel)⟩
theorem lw_p67 : lw_okq (⟨"MoonRoomsModel", "plainTells", "(I)I"⟩, 26) := ⟨⟨by decide +kernel, by decide +kernel⟩, List.mem_of_getElem? (i := 719) (by decide +kernel), List.mem_of_getElem? (i := 1223) (by decide +kernel), List.mem_of_getElem? (i := 1224) (by decide +kernel)⟩
theorem lw_p68 : lw_okq (⟨"MoonRoomsModel", "heldNow", "()I"⟩, 26) := ⟨⟨by decide +kernel, by decide +kernel⟩, List.mem_of_getElem? (i := 719) (by decide +kernel), List.mem_of_getElem? (i := 1271) (by decide +kernel), List.mem_of_getElem? (i := 1272) (by decide +kernel)⟩
def lw_privs_5 : List (MethodName × Nat) := [(⟨"MoonRoomsModel", "paysOf", "(I)I"⟩, 26), (⟨"MoonRoomsModel", "holdsOf", "(I)I"⟩, 26), (⟨"MoonRoomsModel", "tellsOf", "(I)I"⟩, 26), (⟨"MoonRoomsModel", "plainTells", "(I)I"⟩, 26), (⟨"MoonRoomsModel", "heldNow", "()I"⟩, 26)]
theorem lw_r5 : ∀ q ∈ lw_privs_5, lw_okq q := List.forall_mem_cons.mpr ⟨lw_p64, List.forall_mem_cons.mpr ⟨lw_p65, List.forall_mem_cons.mpr ⟨lw_p66, List.forall_mem_cons.mpr ⟨lw_p67, List.forall_mem_cons.mpr ⟨lw_p68, fun _ h => absurd h List.not_mem_nil⟩⟩⟩⟩⟩
def lw_privs : List (MethodName × Nat) := lw_privs_1 ++ (lw_privs_2 ++ (lw_privs_3 ++ (lw_privs_4 ++ (lw_privs_5))))
def lw_tbl : List Cond := k2_sels lw_privs ++ tables_1
theorem lw_privs_ok : ∀ q ∈ lw_privs, lw_okq q := by
  show ∀ q ∈ lw_privs_1 ++ (lw_privs_2 ++ (lw_privs_3 ++ (lw_privs_4 ++ (lw_privs_5)))), lw_okq q
  exact List.forall_mem_append.mpr ⟨lw_r1, List.forall_mem_append.mpr ⟨lw_r2, List.forall_mem_append.mpr ⟨lw_r3, List.forall_mem_append.mpr ⟨lw_r4, lw_r5⟩⟩⟩⟩
-- ===== end of PART A; then your names; then what follows =====
end
section
/-! ===== BEGIN printed: names, fields, word lists, decode rows ===== -/
def RX0 : String := "MoonRooms$House"
def TX0 : u_T := fun k => match k with
  | 0 => ("MoonRooms$House", "night", "I", false)
  | 1 => ("MoonRooms$House", "weather", "I", false)
  | 2 => ("MoonRooms$House", "z", "I", false)
  | 3 => ("MoonRooms$House", "tenants", "I", false)
  | 4 => ("MoonRooms$House", "all", "[LMoonRooms$Tenant;", true)
  | 5 => ("MoonRooms$House", "tape", "LMoonRooms$Row;", true)
  | 6 => ("MoonRooms$House", "waiting", "LMoonRooms$Row;", true)
  | 7 => ("MoonRooms$House", "clouds", "LMoonRooms$Law;", true)
  | _ => ("MoonRooms$House", "rents", "LMoonRooms$Law;", true)
def tyX0 : Nat → FieldType := fun k => match k with
  | 0 => .int
  | 1 => .int
  | 2 => .int
  | 3 => .int
  | 4 => .array (.object "MoonRooms$Tenant")
  | 5 => .object "MoonRooms$Row"
  | 6 => .object "MoonRooms$Row"
  | 7 => .object "MoonRooms$Law"
  | _ => .object "MoonRooms$Law"
abbrev wsX00 : List Cond := u_ws RX0 TX0 9
theorem nmX0 : ∀ a, a < 9 → ∀ b, b < 9 → a ≠ b → (TX0 a).2.1 ≠ (TX0 b).2.1 := by decide +kernel
theorem tyX0_ok : ∀ k, k < 9 → parseFieldDescriptor (TX0 k).2.2.1 = some (tyX0 k) := by decide +kernel
abbrev cX0_init : ByteArray := prog_2_method_1_code
def yX0_init : MethodName := ⟨RX0, "<init>", "()V"⟩
abbrev cX0_copyFrom : ByteArray := prog_2_method_2_code
def yX0_copyFrom : MethodName := ⟨RX0, "copyFrom", "(LMoonRooms$House;)V"⟩
abbrev cX0_find : ByteArray := prog_2_method_3_code
def yX0_find : MethodName := ⟨RX0, "find", "(I)LMoonRooms$Tenant;"⟩
abbrev cX0_takeIn : ByteArray := prog_2_method_4_code
def yX0_takeIn : MethodName := ⟨RX0, "takeIn", "(II)I"⟩
abbrev cX0_lawOf : ByteArray := prog_2_method_5_code
def yX0_lawOf : MethodName := ⟨RX0, "lawOf", "(I)LMoonRooms$Law;"⟩
abbrev cX0_seenIn : ByteArray := prog_2_method_6_code
def yX0_seenIn : MethodName := ⟨RX0, "seenIn", "(I)I"⟩
abbrev cX0_holdersOf : ByteArray := prog_2_method_7_code
def yX0_holdersOf : MethodName := ⟨RX0, "holdersOf", "(I)I"⟩
abbrev cX0_heldByOthers : ByteArray := prog_2_method_8_code
def yX0_heldByOthers : MethodName := ⟨RX0, "heldByOthers", "(I)I"⟩
abbrev cX0_sharersWith : ByteArray := prog_2_method_9_code
def yX0_sharersWith : MethodName := ⟨RX0, "sharersWith", "(I)I"⟩
abbrev cX0_howManyEvicted : ByteArray := prog_2_method_10_code
def yX0_howManyEvicted : MethodName := ⟨RX0, "howManyEvicted", "()I"⟩
abbrev cX0_rentTogether : ByteArray := prog_2_method_11_code
def yX0_rentTogether : MethodName := ⟨RX0, "rentTogether", "(I)I"⟩
abbrev cX0_passNights : ByteArray := prog_2_method_12_code
def yX0_passNights : MethodName := ⟨RX0, "passNights", "(I)V"⟩
abbrev cX0_earnAll : ByteArray := prog_2_method_13_code
def yX0_earnAll : MethodName := ⟨RX0, "earnAll", "()V"⟩
abbrev cX0_payAll : ByteArray := prog_2_method_14_code
def yX0_payAll : MethodName := ⟨RX0, "payAll", "()V"⟩
abbrev cX0_draw : ByteArray := prog_2_method_15_code
def yX0_draw : MethodName := ⟨RX0, "draw", "()I"⟩
abbrev cX0_drawNight : ByteArray := prog_2_method_16_code
def yX0_drawNight : MethodName := ⟨RX0, "drawNight", "()V"⟩
abbrev cX0_clashersWith : ByteArray := prog_2_method_17_code
def yX0_clashersWith : MethodName := ⟨RX0, "clashersWith", "(I)I"⟩
abbrev cX0_leastToGiveUp : ByteArray := prog_2_method_18_code
def yX0_leastToGiveUp : MethodName := ⟨RX0, "leastToGiveUp", "()I"⟩
abbrev cX0_isPeaceWithout : ByteArray := prog_2_method_19_code
def yX0_isPeaceWithout : MethodName := ⟨RX0, "isPeaceWithout", "(I)Z"⟩
def RX1 : String := "MoonRooms$Law"
def TX1 : u_T := fun k => match k with
  | 0 => ("MoonRooms$Law", "use", "I", true)
  | 1 => ("MoonRooms$Law", "code", "LMoonRooms$Row;", true)
  | _ => ("MoonRooms$Law", "stack", "[I", true)
def tyX1 : Nat → FieldType := fun k => match k with
  | 0 => .int
  | 1 => .object "MoonRooms$Row"
  | _ => .array .int
abbrev wsX10 : List Cond := u_ws RX1 TX1 3
theorem nmX1 : ∀ a, a < 3 → ∀ b, b < 3 → a ≠ b → (TX1 a).2.1 ≠ (TX1 b).2.1 := by decide +kernel
theorem tyX1_ok : ∀ k, k < 3 → parseFieldDescriptor (TX1 k).2.2.1 = some (tyX1 k) := by decide +kernel
abbrev cX1_init : ByteArray := prog_3_method_1_code
def yX1_init : MethodName := ⟨RX1, "<init>", "(I)V"⟩
abbrev cX1_copyFrom : ByteArray := prog_3_method_2_code
def yX1_copyFrom : MethodName := ⟨RX1, "copyFrom", "(LMoonRooms$Row;)V"⟩
abbrev cX1_rule : ByteArray := prog_3_method_3_code
def yX1_rule : MethodName := ⟨RX1, "rule", "(III)I"⟩
abbrev cX1_workOut : ByteArray := prog_3_method_4_code
def yX1_workOut : MethodName := ⟨RX1, "workOut", "(III)I"⟩
abbrev cX1_valueOf : ByteArray := prog_3_method_5_code
def yX1_valueOf : MethodName := ⟨RX1, "valueOf", "(IIII)I"⟩
abbrev cX1_join : ByteArray := prog_3_method_6_code
def yX1_join : MethodName := ⟨RX1, "join", "(III)I"⟩
abbrev cX1_asInt : ByteArray := prog_3_method_7_code
def yX1_asInt : MethodName := ⟨RX1, "asInt", "(Z)I"⟩
def RX2 : String := "MoonRooms$Reader"
def TX2 : u_T := fun k => match k with
  | 0 => ("MoonRooms$Reader", "tape", "LMoonRooms$Row;", true)
  | 1 => ("MoonRooms$Reader", "code", "LMoonRooms$Row;", true)
  | 2 => ("MoonRooms$Reader", "use", "I", false)
  | _ => ("MoonRooms$Reader", "place", "I", false)
def tyX2 : Nat → FieldType := fun k => match k with
  | 0 => .object "MoonRooms$Row"
  | 1 => .object "MoonRooms$Row"
  | 2 => .int
  | _ => .int
abbrev wsX20 : List Cond := u_ws RX2 TX2 4
theorem nmX2 : ∀ a, a < 4 → ∀ b, b < 4 → a ≠ b → (TX2 a).2.1 ≠ (TX2 b).2.1 := by decide +kernel
theorem tyX2_ok : ∀ k, k < 4 → parseFieldDescriptor (TX2 k).2.2.1 = some (tyX2 k) := by decide +kernel
abbrev cX2_init : ByteArray := prog_4_method_1_code
def yX2_init : MethodName := ⟨RX2, "<init>", "()V"⟩
abbrev cX2_read : ByteArray := prog_4_method_2_code
def yX2_read : MethodName := ⟨RX2, "read", "(LMoonRooms$Row;I)I"⟩
abbrev cX2_here : ByteArray := prog_4_method_3_code
def yX2_here : MethodName := ⟨RX2, "here", "()I"⟩
abbrev cX2_readLevel : ByteArray := prog_4_method_4_code
def yX2_readLevel : MethodName := ⟨RX2, "readLevel", "(II)Z"⟩
abbrev cX2_readSingle : ByteArray := prog_4_method_5_code
def yX2_readSingle : MethodName := ⟨RX2, "readSingle", "(I)Z"⟩
abbrev cX2_readNot : ByteArray := prog_4_method_6_code
def yX2_readNot : MethodName := ⟨RX2, "readNot", "(I)Z"⟩
abbrev cX2_readClosed : ByteArray := prog_4_method_7_code
def yX2_readClosed : MethodName := ⟨RX2, "readClosed", "(I)Z"⟩
abbrev cX2_readNumber : ByteArray := prog_4_method_8_code
def yX2_readNumber : MethodName := ⟨RX2, "readNumber", "()V"⟩
abbrev cX2_nameOf : ByteArray := prog_4_method_9_code
def yX2_nameOf : MethodName := ⟨RX2, "nameOf", "(I)I"⟩
abbrev cX2_isDigit : ByteArray := prog_4_method_10_code
def yX2_isDigit : MethodName := ⟨RX2, "isDigit", "(I)Z"⟩
abbrev cX2_levelOf : ByteArray := prog_4_method_11_code
def yX2_levelOf : MethodName := ⟨RX2, "levelOf", "(I)I"⟩
def RX3 : String := "MoonRooms$Row"
def TX3 : u_T := fun k => match k with
  | 0 => ("MoonRooms$Row", "numbers", "[I", true)
  | _ => ("MoonRooms$Row", "size", "I", false)
def tyX3 : Nat → FieldType := fun k => match k with
  | 0 => .array .int
  | _ => .int
abbrev wsX30 : List Cond := u_ws RX3 TX3 2
theorem nmX3 : ∀ a, a < 2 → ∀ b, b < 2 → a ≠ b → (TX3 a).2.1 ≠ (TX3 b).2.1 := by decide +kernel
theorem tyX3_ok : ∀ k, k < 2 → parseFieldDescriptor (TX3 k).2.2.1 = some (tyX3 k) := by decide +kernel
abbrev cX3_init : ByteArray := prog_5_method_1_code
def yX3_init : MethodName := ⟨RX3, "<init>", "(I)V"⟩
abbrev cX3_has : ByteArray := prog_5_method_2_code
def yX3_has : MethodName := ⟨RX3, "has", "(I)Z"⟩
abbrev cX3_get : ByteArray := prog_5_method_3_code
def yX3_get : MethodName := ⟨RX3, "get", "(I)I"⟩
abbrev cX3_set : ByteArray := prog_5_method_4_code
def yX3_set : MethodName := ⟨RX3, "set", "(II)V"⟩
abbrev cX3_add : ByteArray := prog_5_method_5_code
def yX3_add : MethodName := ⟨RX3, "add", "(I)Z"⟩
abbrev cX3_empty : ByteArray := prog_5_method_6_code
def yX3_empty : MethodName := ⟨RX3, "empty", "()V"⟩
abbrev cX3_fillWithNone : ByteArray := prog_5_method_7_code
def yX3_fillWithNone : MethodName := ⟨RX3, "fillWithNone", "(I)V"⟩
abbrev cX3_copyFrom : ByteArray := prog_5_method_8_code
def yX3_copyFrom : MethodName := ⟨RX3, "copyFrom", "(LMoonRooms$Row;)V"⟩
abbrev cX3_takeFrom : ByteArray := prog_5_method_9_code
def yX3_takeFrom : MethodName := ⟨RX3, "takeFrom", "(LMoonRooms$Row;III)Z"⟩
def RX4 : String := "MoonRooms$Sheet"
def TX4 : u_T := fun k => match k with
  | 0 => ("MoonRooms$Sheet", "row", "LMoonRooms$Row;", true)
  | _ => ("MoonRooms$Sheet", "bits", "I", false)
def tyX4 : Nat → FieldType := fun k => match k with
  | 0 => .object "MoonRooms$Row"
  | _ => .int
abbrev wsX40 : List Cond := u_ws RX4 TX4 2
theorem nmX4 : ∀ a, a < 2 → ∀ b, b < 2 → a ≠ b → (TX4 a).2.1 ≠ (TX4 b).2.1 := by decide +kernel
theorem tyX4_ok : ∀ k, k < 2 → parseFieldDescriptor (TX4 k).2.2.1 = some (tyX4 k) := by decide +kernel
abbrev cX4_init : ByteArray := prog_6_method_1_code
def yX4_init : MethodName := ⟨RX4, "<init>", "()V"⟩
abbrev cX4_lowestBits : ByteArray := prog_6_method_2_code
def yX4_lowestBits : MethodName := ⟨RX4, "lowestBits", "(I)I"⟩
def RX5 : String := "MoonRooms$Speaker"
def TX5 : u_T := fun k => match k with
  | 0 => ("MoonRooms$Speaker", "bodies", "LMoonRooms$Row;", true)
  | 1 => ("MoonRooms$Speaker", "kind", "I", false)
  | 2 => ("MoonRooms$Speaker", "number", "I", false)
  | _ => ("MoonRooms$Speaker", "m", "I", false)
def tyX5 : Nat → FieldType := fun k => match k with
  | 0 => .object "MoonRooms$Row"
  | 1 => .int
  | 2 => .int
  | _ => .int
abbrev wsX50 : List Cond := u_ws RX5 TX5 4
theorem nmX5 : ∀ a, a < 4 → ∀ b, b < 4 → a ≠ b → (TX5 a).2.1 ≠ (TX5 b).2.1 := by decide +kernel
theorem tyX5_ok : ∀ k, k < 4 → parseFieldDescriptor (TX5 k).2.2.1 = some (tyX5 k) := by decide +kernel
abbrev cX5_init : ByteArray := prog_7_method_1_code
def yX5_init : MethodName := ⟨RX5, "<init>", "()V"⟩
abbrev cX5_speak : ByteArray := prog_7_method_2_code
def yX5_speak : MethodName := ⟨RX5, "speak", "(LMoonRooms$Tenant;III)I"⟩
abbrev cX5_bodyOf : ByteArray := prog_7_method_3_code
def yX5_bodyOf : MethodName := ⟨RX5, "bodyOf", "(II)I"⟩
abbrev cX5_say : ByteArray := prog_7_method_4_code
def yX5_say : MethodName := ⟨RX5, "say", "(IIII)I"⟩
def RX6 : String := "MoonRooms$Tenant"
def TX6 : u_T := fun k => match k with
  | 0 => ("MoonRooms$Tenant", "kind", "I", false)
  | 1 => ("MoonRooms$Tenant", "m", "I", false)
  | 2 => ("MoonRooms$Tenant", "lease", "I", false)
  | 3 => ("MoonRooms$Tenant", "purse", "I", false)
  | _ => ("MoonRooms$Tenant", "evicted", "Z", false)
def tyX6 : Nat → FieldType := fun k => match k with
  | 0 => .int
  | 1 => .int
  | 2 => .int
  | 3 => .int
  | _ => .boolean
abbrev wsX60 : List Cond := u_ws RX6 TX6 5
theorem nmX6 : ∀ a, a < 5 → ∀ b, b < 5 → a ≠ b → (TX6 a).2.1 ≠ (TX6 b).2.1 := by decide +kernel
theorem tyX6_ok : ∀ k, k < 5 → parseFieldDescriptor (TX6 k).2.2.1 = some (tyX6 k) := by decide +kernel
abbrev cX6_init : ByteArray := prog_8_method_1_code
def yX6_init : MethodName := ⟨RX6, "<init>", "()V"⟩
abbrev cX6_copyFrom : ByteArray := prog_8_method_2_code
def yX6_copyFrom : MethodName := ⟨RX6, "copyFrom", "(LMoonRooms$Tenant;)V"⟩
abbrev cX6_looksIn : ByteArray := prog_8_method_3_code
def yX6_looksIn : MethodName := ⟨RX6, "looksIn", "(I)Z"⟩
abbrev cX6_earn : ByteArray := prog_8_method_4_code
def yX6_earn : MethodName := ⟨RX6, "earn", "(II)V"⟩
abbrev cX6_wages : ByteArray := prog_8_method_5_code
def yX6_wages : MethodName := ⟨RX6, "wages", "(I)I"⟩
abbrev cX6_owesBy : ByteArray := prog_8_method_6_code
def yX6_owesBy : MethodName := ⟨RX6, "owesBy", "(II)I"⟩
abbrev cX6_pay : ByteArray := prog_8_method_7_code
def yX6_pay : MethodName := ⟨RX6, "pay", "(I)V"⟩
def RX7 : String := "MoonRooms$Wishes"
def TX7 : u_T := fun k => match k with
  | _ => ("MoonRooms$Wishes", "sets", "LMoonRooms$Row;", true)
def tyX7 : Nat → FieldType := fun k => match k with
  | _ => .object "MoonRooms$Row"
abbrev wsX70 : List Cond := u_ws RX7 TX7 1
theorem nmX7 : ∀ a, a < 1 → ∀ b, b < 1 → a ≠ b → (TX7 a).2.1 ≠ (TX7 b).2.1 := by decide +kernel
theorem tyX7_ok : ∀ k, k < 1 → parseFieldDescriptor (TX7 k).2.2.1 = some (tyX7 k) := by decide +kernel
abbrev cX7_init : ByteArray := prog_9_method_1_code
def yX7_init : MethodName := ⟨RX7, "<init>", "()V"⟩
abbrev cX7_mostFrom : ByteArray := prog_9_method_2_code
def yX7_mostFrom : MethodName := ⟨RX7, "mostFrom", "(II)I"⟩
abbrev cX7_wishedBy : ByteArray := prog_9_method_3_code
def yX7_wishedBy : MethodName := ⟨RX7, "wishedBy", "(I)I"⟩
abbrev cX7_roomOf : ByteArray := prog_9_method_4_code
def yX7_roomOf : MethodName := ⟨RX7, "roomOf", "(I)I"⟩
abbrev cX7_firstRoom : ByteArray := prog_9_method_5_code
def yX7_firstRoom : MethodName := ⟨RX7, "firstRoom", "(II)I"⟩
def RX8 : String := "MoonRooms"
def TX8 : u_T := fun k => match k with
  | 0 => ("MoonRooms", "now", "LMoonRooms$House;", true)
  | 1 => ("MoonRooms", "kept", "LMoonRooms$House;", true)
  | 2 => ("MoonRooms", "thought", "LMoonRooms$House;", true)
  | 3 => ("MoonRooms", "reader", "LMoonRooms$Reader;", true)
  | 4 => ("MoonRooms", "speaker", "LMoonRooms$Speaker;", true)
  | 5 => ("MoonRooms", "wishes", "LMoonRooms$Wishes;", true)
  | 6 => ("MoonRooms", "sheets", "[LMoonRooms$Sheet;", true)
  | 7 => ("MoonRooms", "errors", "[I", true)
  | _ => ("MoonRooms", "images", "I", false)
def tyX8 : Nat → FieldType := fun k => match k with
  | 0 => .object "MoonRooms$House"
  | 1 => .object "MoonRooms$House"
  | 2 => .object "MoonRooms$House"
  | 3 => .object "MoonRooms$Reader"
  | 4 => .object "MoonRooms$Speaker"
  | 5 => .object "MoonRooms$Wishes"
  | 6 => .array (.object "MoonRooms$Sheet")
  | 7 => .array .int
  | _ => .int
abbrev wsX80 : List Cond := u_ws RX8 TX8 9
theorem nmX8 : ∀ a, a < 9 → ∀ b, b < 9 → a ≠ b → (TX8 a).2.1 ≠ (TX8 b).2.1 := by decide +kernel
theorem tyX8_ok : ∀ k, k < 9 → parseFieldDescriptor (TX8 k).2.2.1 = some (tyX8 k) := by decide +kernel
abbrev cX8_init : ByteArray := prog_1_method_1_code
def yX8_init : MethodName := ⟨RX8, "<init>", "()V"⟩
abbrev cX8_ofCell : ByteArray := prog_1_method_2_code
def yX8_ofCell : MethodName := ⟨RX8, "ofCell", "(II)I"⟩
abbrev cX8_lit : ByteArray := prog_1_method_3_code
def yX8_lit : MethodName := ⟨RX8, "lit", "(I)I"⟩
abbrev cX8_weather : ByteArray := prog_1_method_4_code
def yX8_weather : MethodName := ⟨RX8, "weather", "(I)I"⟩
abbrev cX8_tenant : ByteArray := prog_1_method_5_code
def yX8_tenant : MethodName := ⟨RX8, "tenant", "(I)I"⟩
abbrev cX8_ofTenant : ByteArray := prog_1_method_6_code
def yX8_ofTenant : MethodName := ⟨RX8, "ofTenant", "(II)I"⟩
abbrev cX8_become : ByteArray := prog_1_method_7_code
def yX8_become : MethodName := ⟨RX8, "become", "(II)I"⟩
abbrev cX8_as : ByteArray := prog_1_method_8_code
def yX8_as : MethodName := ⟨RX8, "as", "(II)I"⟩
abbrev cX8_lease : ByteArray := prog_1_method_9_code
def yX8_lease : MethodName := ⟨RX8, "lease", "(II)I"⟩
abbrev cX8_purse : ByteArray := prog_1_method_10_code
def yX8_purse : MethodName := ⟨RX8, "purse", "(II)I"⟩
abbrev cX8_pardon : ByteArray := prog_1_method_11_code
def yX8_pardon : MethodName := ⟨RX8, "pardon", "(I)I"⟩
abbrev cX8_feed : ByteArray := prog_1_method_12_code
def yX8_feed : MethodName := ⟨RX8, "feed", "(JI)I"⟩
abbrev cX8_text : ByteArray := prog_1_method_13_code
def yX8_text : MethodName := ⟨RX8, "text", "(I)I"⟩
abbrev cX8_law : ByteArray := prog_1_method_14_code
def yX8_law : MethodName := ⟨RX8, "law", "(IIII)I"⟩
abbrev cX8_nights : ByteArray := prog_1_method_15_code
def yX8_nights : MethodName := ⟨RX8, "nights", "(I)I"⟩
abbrev cX8_loose : ByteArray := prog_1_method_16_code
def yX8_loose : MethodName := ⟨RX8, "loose", "(I)I"⟩
abbrev cX8_then : ByteArray := prog_1_method_17_code
def yX8_then : MethodName := ⟨RX8, "then", "(III)I"⟩
abbrev cX8_often : ByteArray := prog_1_method_18_code
def yX8_often : MethodName := ⟨RX8, "often", "(II)I"⟩
abbrev cX8_whole : ByteArray := prog_1_method_19_code
def yX8_whole : MethodName := ⟨RX8, "whole", "(I)I"⟩
abbrev cX8_stays : ByteArray := prog_1_method_20_code
def yX8_stays : MethodName := ⟨RX8, "stays", "(I)I"⟩
abbrev cX8_clash : ByteArray := prog_1_method_21_code
def yX8_clash : MethodName := ⟨RX8, "clash", "()I"⟩
abbrev cX8_least : ByteArray := prog_1_method_22_code
def yX8_least : MethodName := ⟨RX8, "least", "(I)I"⟩
abbrev cX8_beside : ByteArray := prog_1_method_23_code
def yX8_beside : MethodName := ⟨RX8, "beside", "(I)I"⟩
abbrev cX8_rooms : ByteArray := prog_1_method_24_code
def yX8_rooms : MethodName := ⟨RX8, "rooms", "(II)I"⟩
abbrev cX8_falls : ByteArray := prog_1_method_25_code
def yX8_falls : MethodName := ⟨RX8, "falls", "(II)I"⟩
abbrev cX8_was : ByteArray := prog_1_method_26_code
def yX8_was : MethodName := ⟨RX8, "was", "(I)I"⟩
abbrev cX8_dear : ByteArray := prog_1_method_27_code
def yX8_dear : MethodName := ⟨RX8, "dear", "(I)I"⟩
abbrev cX8_seed : ByteArray := prog_1_method_28_code
def yX8_seed : MethodName := ⟨RX8, "seed", "(I)I"⟩
abbrev cX8_voice : ByteArray := prog_1_method_29_code
def yX8_voice : MethodName := ⟨RX8, "voice", "(III)I"⟩
abbrev cX8_trace : ByteArray := prog_1_method_30_code
def yX8_trace : MethodName := ⟨RX8, "trace", "(I)I"⟩
abbrev cX8_sheet : ByteArray := prog_1_method_31_code
def yX8_sheet : MethodName := ⟨RX8, "sheet", "(III)I"⟩
abbrev cX8_put : ByteArray := prog_1_method_32_code
def yX8_put : MethodName := ⟨RX8, "put", "(III)I"⟩
abbrev cX8_move : ByteArray := prog_1_method_33_code
def yX8_move : MethodName := ⟨RX8, "move", "(IIIII)I"⟩
abbrev cX8_leases : ByteArray := prog_1_method_34_code
def yX8_leases : MethodName := ⟨RX8, "leases", "(I)I"⟩
abbrev cX8_judge : ByteArray := prog_1_method_35_code
def yX8_judge : MethodName := ⟨RX8, "judge", "(I)I"⟩
abbrev cX8_image : ByteArray := prog_1_method_36_code
def yX8_image : MethodName := ⟨RX8, "image", "()I"⟩
abbrev cX8_restore : ByteArray := prog_1_method_37_code
def yX8_restore : MethodName := ⟨RX8, "restore", "()I"⟩
abbrev cX8_tell : ByteArray := prog_1_method_38_code
def yX8_tell : MethodName := ⟨RX8, "tell", "(I)I"⟩
abbrev cX8_check : ByteArray := prog_1_method_39_code
def yX8_check : MethodName := ⟨RX8, "check", "()I"⟩
abbrev cX8_count : ByteArray := prog_1_method_40_code
def yX8_count : MethodName := ⟨RX8, "count", "(I)I"⟩
abbrev cX8_told : ByteArray := prog_1_method_41_code
def yX8_told : MethodName := ⟨RX8, "told", "(I)I"⟩
abbrev cX8_fail : ByteArray := prog_1_method_42_code
def yX8_fail : MethodName := ⟨RX8, "fail", "(I)I"⟩
abbrev cX8_findSheet : ByteArray := prog_1_method_43_code
def yX8_findSheet : MethodName := ⟨RX8, "findSheet", "(I)LMoonRooms$Sheet;"⟩
abbrev cX8_isOutside : ByteArray := prog_1_method_44_code
def yX8_isOutside : MethodName := ⟨RX8, "isOutside", "(III)Z"⟩
abbrev cX8_isNoKind : ByteArray := prog_1_method_45_code
def yX8_isNoKind : MethodName := ⟨RX8, "isNoKind", "(I)Z"⟩
abbrev cX8_isNoUse : ByteArray := prog_1_method_46_code
def yX8_isNoUse : MethodName := ⟨RX8, "isNoUse", "(I)Z"⟩
abbrev cX8_isNoSet : ByteArray := prog_1_method_47_code
def yX8_isNoSet : MethodName := ⟨RX8, "isNoSet", "(I)Z"⟩
abbrev cX8_isUnder : ByteArray := prog_1_method_48_code
def yX8_isUnder : MethodName := ⟨RX8, "isUnder", "(II)Z"⟩
abbrev cX8_litBy : ByteArray := prog_1_method_49_code
def yX8_litBy : MethodName := ⟨RX8, "litBy", "(I)I"⟩
abbrev cX8_besideCells : ByteArray := prog_1_method_50_code
def yX8_besideCells : MethodName := ⟨RX8, "besideCells", "(I)I"⟩
def RX9 : String := "MoonRoomsModel"
def TX9 : u_T := fun k => match k with
  | 0 => ("MoonRoomsModel", "now", "[I", true)
  | 1 => ("MoonRoomsModel", "kept", "[I", true)
  | 2 => ("MoonRoomsModel", "aside", "[I", true)
  | 3 => ("MoonRoomsModel", "images", "I", false)
  | 4 => ("MoonRoomsModel", "errors", "[I", true)
  | 5 => ("MoonRoomsModel", "NAMED", "[Ljava/lang/String;", true)
  | 6 => ("MoonRoomsModel", "at", "I", false)
  | 7 => ("MoonRoomsModel", "open", "I", false)
  | 8 => ("MoonRoomsModel", "use", "I", false)
  | 9 => ("MoonRoomsModel", "isWrong", "Z", false)
  | 10 => ("MoonRoomsModel", "code", "[I", true)
  | 11 => ("MoonRoomsModel", "coded", "I", false)
  | 12 => ("MoonRoomsModel", "named", "[I", true)
  | 13 => ("MoonRoomsModel", "pile", "[I", true)
  | 14 => ("MoonRoomsModel", "wish", "[I", true)
  | 15 => ("MoonRoomsModel", "hasCell", "[I", true)
  | 16 => ("MoonRoomsModel", "met", "I", false)
  | 17 => ("MoonRoomsModel", "trace", "[I", true)
  | 18 => ("MoonRoomsModel", "traced", "I", false)
  | 19 => ("MoonRoomsModel", "kind", "I", false)
  | 20 => ("MoonRoomsModel", "number", "I", false)
  | 21 => ("MoonRoomsModel", "told", "I", false)
  | 22 => ("MoonRoomsModel", "widths", "[I", true)
  | 23 => ("MoonRoomsModel", "sizes", "[I", true)
  | 24 => ("MoonRoomsModel", "numbers", "[I", true)
  | _ => ("MoonRoomsModel", "carried", "[I", true)
def tyX9 : Nat → FieldType := fun k => match k with
  | 0 => .array .int
  | 1 => .array .int
  | 2 => .array .int
  | 3 => .int
  | 4 => .array .int
  | 5 => .array (.object "java/lang/String")
  | 6 => .int
  | 7 => .int
  | 8 => .int
  | 9 => .boolean
  | 10 => .array .int
  | 11 => .int
  | 12 => .array .int
  | 13 => .array .int
  | 14 => .array .int
  | 15 => .array .int
  | 16 => .int
  | 17 => .array .int
  | 18 => .int
  | 19 => .int
  | 20 => .int
  | 21 => .int
  | 22 => .array .int
  | 23 => .array .int
  | 24 => .array .int
  | _ => .array .int
abbrev wsX90 : List Cond := u_ws RX9 TX9 26
theorem nmX9 : ∀ a, a < 26 → ∀ b, b < 26 → a ≠ b → (TX9 a).2.1 ≠ (TX9 b).2.1 := by decide +kernel
theorem tyX9_ok : ∀ k, k < 26 → parseFieldDescriptor (TX9 k).2.2.1 = some (tyX9 k) := by decide +kernel
abbrev cX9_init : ByteArray := prog_11_method_1_code
def yX9_init : MethodName := ⟨RX9, "<init>", "()V"⟩
abbrev cX9_finding : ByteArray := prog_11_method_2_code
def yX9_finding : MethodName := ⟨RX9, "finding", "(I)I"⟩
abbrev cX9_within : ByteArray := prog_11_method_3_code
def yX9_within : MethodName := ⟨RX9, "within", "(III)Z"⟩
abbrev cX9_hasBit : ByteArray := prog_11_method_4_code
def yX9_hasBit : MethodName := ⟨RX9, "hasBit", "(II)Z"⟩
abbrev cX9_bits : ByteArray := prog_11_method_5_code
def yX9_bits : MethodName := ⟨RX9, "bits", "(I)I"⟩
abbrev cX9_held : ByteArray := prog_11_method_6_code
def yX9_held : MethodName := ⟨RX9, "held", "(III)I"⟩
abbrev cX9_copy : ByteArray := prog_11_method_7_code
def yX9_copy : MethodName := ⟨RX9, "copy", "([I[I)V"⟩
abbrev cX9_turn : ByteArray := prog_11_method_8_code
def yX9_turn : MethodName := ⟨RX9, "turn", "(II)I"⟩
abbrev cX9_putBack : ByteArray := prog_11_method_9_code
def yX9_putBack : MethodName := ⟨RX9, "putBack", "(I)I"⟩
abbrev cX9_feed : ByteArray := prog_11_method_10_code
def yX9_feed : MethodName := ⟨RX9, "feed", "(JI)I"⟩
abbrev cX9_here : ByteArray := prog_11_method_11_code
def yX9_here : MethodName := ⟨RX9, "here", "()I"⟩
abbrev cX9_takes : ByteArray := prog_11_method_12_code
def yX9_takes : MethodName := ⟨RX9, "takes", "(I)Z"⟩
abbrev cX9_codes : ByteArray := prog_11_method_13_code
def yX9_codes : MethodName := ⟨RX9, "codes", "(I)V"⟩
abbrev cX9_either : ByteArray := prog_11_method_14_code
def yX9_either : MethodName := ⟨RX9, "either", "()V"⟩
abbrev cX9_both : ByteArray := prog_11_method_15_code
def yX9_both : MethodName := ⟨RX9, "both", "()V"⟩
abbrev cX9_compared : ByteArray := prog_11_method_16_code
def yX9_compared : MethodName := ⟨RX9, "compared", "()V"⟩
abbrev cX9_sum : ByteArray := prog_11_method_17_code
def yX9_sum : MethodName := ⟨RX9, "sum", "()V"⟩
abbrev cX9_product : ByteArray := prog_11_method_18_code
def yX9_product : MethodName := ⟨RX9, "product", "()V"⟩
abbrev cX9_nameOf : ByteArray := prog_11_method_19_code
def yX9_nameOf : MethodName := ⟨RX9, "nameOf", "(I)I"⟩
abbrev cX9_one : ByteArray := prog_11_method_20_code
def yX9_one : MethodName := ⟨RX9, "one", "()V"⟩
abbrev cX9_text : ByteArray := prog_11_method_21_code
def yX9_text : MethodName := ⟨RX9, "text", "(I)I"⟩
abbrev cX9_done : ByteArray := prog_11_method_22_code
def yX9_done : MethodName := ⟨RX9, "done", "(III)I"⟩
abbrev cX9_worked : ByteArray := prog_11_method_23_code
def yX9_worked : MethodName := ⟨RX9, "worked", "(I)I"⟩
abbrev cX9_hasText : ByteArray := prog_11_method_24_code
def yX9_hasText : MethodName := ⟨RX9, "hasText", "(I)Z"⟩
abbrev cX9_given : ByteArray := prog_11_method_25_code
def yX9_given : MethodName := ⟨RX9, "given", "(IIII)I"⟩
abbrev cX9_law : ByteArray := prog_11_method_26_code
def yX9_law : MethodName := ⟨RX9, "law", "(IIII)I"⟩
abbrev cX9_isCell : ByteArray := prog_11_method_27_code
def yX9_isCell : MethodName := ⟨RX9, "isCell", "(I)Z"⟩
abbrev cX9_columnsLit : ByteArray := prog_11_method_28_code
def yX9_columnsLit : MethodName := ⟨RX9, "columnsLit", "(I)I"⟩
abbrev cX9_litBy : ByteArray := prog_11_method_29_code
def yX9_litBy : MethodName := ⟨RX9, "litBy", "(I)I"⟩
abbrev cX9_phase : ByteArray := prog_11_method_30_code
def yX9_phase : MethodName := ⟨RX9, "phase", "()I"⟩
abbrev cX9_litNow : ByteArray := prog_11_method_31_code
def yX9_litNow : MethodName := ⟨RX9, "litNow", "()I"⟩
abbrev cX9_isCloudy : ByteArray := prog_11_method_32_code
def yX9_isCloudy : MethodName := ⟨RX9, "isCloudy", "()Z"⟩
abbrev cX9_seenNow : ByteArray := prog_11_method_33_code
def yX9_seenNow : MethodName := ⟨RX9, "seenNow", "()I"⟩
abbrev cX9_holders : ByteArray := prog_11_method_34_code
def yX9_holders : MethodName := ⟨RX9, "holders", "(I)I"⟩
abbrev cX9_rentOf : ByteArray := prog_11_method_35_code
def yX9_rentOf : MethodName := ⟨RX9, "rentOf", "(I)I"⟩
abbrev cX9_ofCell : ByteArray := prog_11_method_36_code
def yX9_ofCell : MethodName := ⟨RX9, "ofCell", "(II)I"⟩
abbrev cX9_lit : ByteArray := prog_11_method_37_code
def yX9_lit : MethodName := ⟨RX9, "lit", "(I)I"⟩
abbrev cX9_weather : ByteArray := prog_11_method_38_code
def yX9_weather : MethodName := ⟨RX9, "weather", "(I)I"⟩
abbrev cX9_isTenant : ByteArray := prog_11_method_39_code
def yX9_isTenant : MethodName := ⟨RX9, "isTenant", "(I)Z"⟩
abbrev cX9_at : ByteArray := prog_11_method_40_code
def yX9_at : MethodName := ⟨RX9, "at", "(II)I"⟩
abbrev cX9_tenantIs : ByteArray := prog_11_method_41_code
def yX9_tenantIs : MethodName := ⟨RX9, "tenantIs", "(II)I"⟩
abbrev cX9_isOut : ByteArray := prog_11_method_42_code
def yX9_isOut : MethodName := ⟨RX9, "isOut", "(I)Z"⟩
abbrev cX9_isKindM : ByteArray := prog_11_method_43_code
def yX9_isKindM : MethodName := ⟨RX9, "isKindM", "(I)Z"⟩
abbrev cX9_comes : ByteArray := prog_11_method_44_code
def yX9_comes : MethodName := ⟨RX9, "comes", "(I)I"⟩
abbrev cX9_tenant : ByteArray := prog_11_method_45_code
def yX9_tenant : MethodName := ⟨RX9, "tenant", "(I)I"⟩
abbrev cX9_above : ByteArray := prog_11_method_46_code
def yX9_above : MethodName := ⟨RX9, "above", "(I)I"⟩
abbrev cX9_isUnder : ByteArray := prog_11_method_47_code
def yX9_isUnder : MethodName := ⟨RX9, "isUnder", "(II)Z"⟩
abbrev cX9_isOf : ByteArray := prog_11_method_48_code
def yX9_isOf : MethodName := ⟨RX9, "isOf", "(II)Z"⟩
abbrev cX9_looks : ByteArray := prog_11_method_49_code
def yX9_looks : MethodName := ⟨RX9, "looks", "(I)Z"⟩
abbrev cX9_othersIn : ByteArray := prog_11_method_50_code
def yX9_othersIn : MethodName := ⟨RX9, "othersIn", "(I)I"⟩
abbrev cX9_owes : ByteArray := prog_11_method_51_code
def yX9_owes : MethodName := ⟨RX9, "owes", "(I)I"⟩
abbrev cX9_earns : ByteArray := prog_11_method_52_code
def yX9_earns : MethodName := ⟨RX9, "earns", "(I)I"⟩
abbrev cX9_ofTenant : ByteArray := prog_11_method_53_code
def yX9_ofTenant : MethodName := ⟨RX9, "ofTenant", "(II)I"⟩
abbrev cX9_become : ByteArray := prog_11_method_54_code
def yX9_become : MethodName := ⟨RX9, "become", "(II)I"⟩
abbrev cX9_as : ByteArray := prog_11_method_55_code
def yX9_as : MethodName := ⟨RX9, "as", "(II)I"⟩
abbrev cX9_isSet : ByteArray := prog_11_method_56_code
def yX9_isSet : MethodName := ⟨RX9, "isSet", "(I)Z"⟩
abbrev cX9_lease : ByteArray := prog_11_method_57_code
def yX9_lease : MethodName := ⟨RX9, "lease", "(II)I"⟩
abbrev cX9_purse : ByteArray := prog_11_method_58_code
def yX9_purse : MethodName := ⟨RX9, "purse", "(II)I"⟩
abbrev cX9_manyOut : ByteArray := prog_11_method_59_code
def yX9_manyOut : MethodName := ⟨RX9, "manyOut", "()I"⟩
abbrev cX9_pardon : ByteArray := prog_11_method_60_code
def yX9_pardon : MethodName := ⟨RX9, "pardon", "(I)I"⟩
abbrev cX9_pays : ByteArray := prog_11_method_61_code
def yX9_pays : MethodName := ⟨RX9, "pays", "(I)V"⟩
abbrev cX9_night : ByteArray := prog_11_method_62_code
def yX9_night : MethodName := ⟨RX9, "night", "()V"⟩
abbrev cX9_pass : ByteArray := prog_11_method_63_code
def yX9_pass : MethodName := ⟨RX9, "pass", "(I)V"⟩
abbrev cX9_nights : ByteArray := prog_11_method_64_code
def yX9_nights : MethodName := ⟨RX9, "nights", "(I)I"⟩
abbrev cX9_drawn : ByteArray := prog_11_method_65_code
def yX9_drawn : MethodName := ⟨RX9, "drawn", "()I"⟩
abbrev cX9_takesByDraws : ByteArray := prog_11_method_66_code
def yX9_takesByDraws : MethodName := ⟨RX9, "takesByDraws", "()V"⟩
abbrev cX9_loose : ByteArray := prog_11_method_67_code
def yX9_loose : MethodName := ⟨RX9, "loose", "(I)I"⟩
abbrev cX9_then : ByteArray := prog_11_method_68_code
def yX9_then : MethodName := ⟨RX9, "then", "(III)I"⟩
abbrev cX9_often : ByteArray := prog_11_method_69_code
def yX9_often : MethodName := ⟨RX9, "often", "(II)I"⟩
abbrev cX9_whole : ByteArray := prog_11_method_70_code
def yX9_whole : MethodName := ⟨RX9, "whole", "(I)I"⟩
abbrev cX9_stays : ByteArray := prog_11_method_71_code
def yX9_stays : MethodName := ⟨RX9, "stays", "(I)I"⟩
abbrev cX9_clashes : ByteArray := prog_11_method_72_code
def yX9_clashes : MethodName := ⟨RX9, "clashes", "(II)Z"⟩
abbrev cX9_clashBut : ByteArray := prog_11_method_73_code
def yX9_clashBut : MethodName := ⟨RX9, "clashBut", "(I)I"⟩
abbrev cX9_clash : ByteArray := prog_11_method_74_code
def yX9_clash : MethodName := ⟨RX9, "clash", "()I"⟩
abbrev cX9_least : ByteArray := prog_11_method_75_code
def yX9_least : MethodName := ⟨RX9, "least", "(I)I"⟩
abbrev cX9_beside : ByteArray := prog_11_method_76_code
def yX9_beside : MethodName := ⟨RX9, "beside", "(I)I"⟩
abbrev cX9_gets : ByteArray := prog_11_method_77_code
def yX9_gets : MethodName := ⟨RX9, "gets", "(I)Z"⟩
abbrev cX9_mostRooms : ByteArray := prog_11_method_78_code
def yX9_mostRooms : MethodName := ⟨RX9, "mostRooms", "()I"⟩
abbrev cX9_settle : ByteArray := prog_11_method_79_code
def yX9_settle : MethodName := ⟨RX9, "settle", "(I)V"⟩
abbrev cX9_isAlone : ByteArray := prog_11_method_80_code
def yX9_isAlone : MethodName := ⟨RX9, "isAlone", "(I)Z"⟩
abbrev cX9_tellsWishes : ByteArray := prog_11_method_81_code
def yX9_tellsWishes : MethodName := ⟨RX9, "tellsWishes", "(I)Z"⟩
abbrev cX9_rooms : ByteArray := prog_11_method_82_code
def yX9_rooms : MethodName := ⟨RX9, "rooms", "(II)I"⟩
abbrev cX9_falls : ByteArray := prog_11_method_83_code
def yX9_falls : MethodName := ⟨RX9, "falls", "(II)I"⟩
abbrev cX9_was : ByteArray := prog_11_method_84_code
def yX9_was : MethodName := ⟨RX9, "was", "(I)I"⟩
abbrev cX9_dear : ByteArray := prog_11_method_85_code
def yX9_dear : MethodName := ⟨RX9, "dear", "(I)I"⟩
abbrev cX9_seed : ByteArray := prog_11_method_86_code
def yX9_seed : MethodName := ⟨RX9, "seed", "(I)I"⟩
abbrev cX9_runs : ByteArray := prog_11_method_87_code
def yX9_runs : MethodName := ⟨RX9, "runs", "(I)V"⟩
abbrev cX9_looksOf : ByteArray := prog_11_method_88_code
def yX9_looksOf : MethodName := ⟨RX9, "looksOf", "(I)I"⟩
abbrev cX9_paysOf : ByteArray := prog_11_method_89_code
def yX9_paysOf : MethodName := ⟨RX9, "paysOf", "(I)I"⟩
abbrev cX9_holdsOf : ByteArray := prog_11_method_90_code
def yX9_holdsOf : MethodName := ⟨RX9, "holdsOf", "(I)I"⟩
abbrev cX9_plainTells : ByteArray := prog_11_method_91_code
def yX9_plainTells : MethodName := ⟨RX9, "plainTells", "(I)I"⟩
abbrev cX9_tellsOf : ByteArray := prog_11_method_92_code
def yX9_tellsOf : MethodName := ⟨RX9, "tellsOf", "(I)I"⟩
abbrev cX9_voice : ByteArray := prog_11_method_93_code
def yX9_voice : MethodName := ⟨RX9, "voice", "(III)I"⟩
abbrev cX9_trace : ByteArray := prog_11_method_94_code
def yX9_trace : MethodName := ⟨RX9, "trace", "(I)I"⟩
abbrev cX9_isSheet : ByteArray := prog_11_method_95_code
def yX9_isSheet : MethodName := ⟨RX9, "isSheet", "(I)Z"⟩
abbrev cX9_sheet : ByteArray := prog_11_method_96_code
def yX9_sheet : MethodName := ⟨RX9, "sheet", "(III)I"⟩
abbrev cX9_put : ByteArray := prog_11_method_97_code
def yX9_put : MethodName := ⟨RX9, "put", "(III)I"⟩
abbrev cX9_move : ByteArray := prog_11_method_98_code
def yX9_move : MethodName := ⟨RX9, "move", "(IIIII)I"⟩
abbrev cX9_leases : ByteArray := prog_11_method_99_code
def yX9_leases : MethodName := ⟨RX9, "leases", "(I)I"⟩
abbrev cX9_judge : ByteArray := prog_11_method_100_code
def yX9_judge : MethodName := ⟨RX9, "judge", "(I)I"⟩
abbrev cX9_image : ByteArray := prog_11_method_101_code
def yX9_image : MethodName := ⟨RX9, "image", "()I"⟩
abbrev cX9_restore : ByteArray := prog_11_method_102_code
def yX9_restore : MethodName := ⟨RX9, "restore", "()I"⟩
abbrev cX9_tell : ByteArray := prog_11_method_103_code
def yX9_tell : MethodName := ⟨RX9, "tell", "(I)I"⟩
abbrev cX9_check : ByteArray := prog_11_method_104_code
def yX9_check : MethodName := ⟨RX9, "check", "()I"⟩
abbrev cX9_heldNow : ByteArray := prog_11_method_105_code
def yX9_heldNow : MethodName := ⟨RX9, "heldNow", "()I"⟩
abbrev cX9_count : ByteArray := prog_11_method_106_code
def yX9_count : MethodName := ⟨RX9, "count", "(I)I"⟩
abbrev cX9_told : ByteArray := prog_11_method_107_code
def yX9_told : MethodName := ⟨RX9, "told", "(I)I"⟩
def RJ6 : String := "java/lang/Integer"
def TJ6 : u_T := fun k => match k with
  | _ => ("", "", "", false)
def tyJ6 : Nat → FieldType := fun k => match k with
  | _ => .int
abbrev wsJ60 : List Cond := u_ws RJ6 TJ6 0
theorem nmJ6 : ∀ a, a < 0 → ∀ b, b < 0 → a ≠ b → (TJ6 a).2.1 ≠ (TJ6 b).2.1 := by decide +kernel
theorem tyJ6_ok : ∀ k, k < 0 → parseFieldDescriptor (TJ6 k).2.2.1 = some (tyJ6 k) := by decide +kernel
abbrev cJ6_bitCount_0f7a4 : ByteArray := prog_12_method_49_code
def yJ6_bitCount_0f7a4 : MethodName := ⟨RJ6, "bitCount", "(I)I"⟩
def RJ9 : String := "java/lang/Math"
def TJ9 : u_T := fun k => match k with
  | _ => ("", "", "", false)
def tyJ9 : Nat → FieldType := fun k => match k with
  | _ => .int
abbrev wsJ90 : List Cond := u_ws RJ9 TJ9 0
theorem nmJ9 : ∀ a, a < 0 → ∀ b, b < 0 → a ≠ b → (TJ9 a).2.1 ≠ (TJ9 b).2.1 := by decide +kernel
theorem tyJ9_ok : ∀ k, k < 0 → parseFieldDescriptor (TJ9 k).2.2.1 = some (tyJ9 k) := by decide +kernel
abbrev cJ9_max_7cf53 : ByteArray := prog_13_method_65_code
def yJ9_max_7cf53 : MethodName := ⟨RJ9, "max", "(II)I"⟩
abbrev cJ9_min_7cf53 : ByteArray := prog_13_method_69_code
def yJ9_min_7cf53 : MethodName := ⟨RJ9, "min", "(II)I"⟩
def RJ0 : String := "java/lang/String"
def TJ0 : u_T := fun k => match k with
  | _ => ("", "", "", false)
def tyJ0 : Nat → FieldType := fun k => match k with
  | _ => .int
abbrev wsJ00 : List Cond := u_ws RJ0 TJ0 0
theorem nmJ0 : ∀ a, a < 0 → ∀ b, b < 0 → a ≠ b → (TJ0 a).2.1 ≠ (TJ0 b).2.1 := by decide +kernel
theorem tyJ0_ok : ∀ k, k < 0 → parseFieldDescriptor (TJ0 k).2.2.1 = some (tyJ0 k) := by decide +kernel
abbrev cJ0_length_8abf5 : ByteArray := prog_14_method_54_code
def yJ0_length_8abf5 : MethodName := ⟨RJ0, "length", "()I"⟩
abbrev cJ0_charAt_5068e : ByteArray := prog_14_method_56_code
def yJ0_charAt_5068e : MethodName := ⟨RJ0, "charAt", "(I)C"⟩
abbrev cJ0_coder_7d493 : ByteArray := prog_14_method_152_code
def yJ0_coder_7d493 : MethodName := ⟨RJ0, "coder", "()B"⟩
abbrev cJ0_isLatin1_aae02 : ByteArray := prog_14_method_154_code
def yJ0_isLatin1_aae02 : MethodName := ⟨RJ0, "isLatin1", "()Z"⟩
abbrev cJ0_checkIndex_df160 : ByteArray := prog_14_method_155_code
def yJ0_checkIndex_df160 : MethodName := ⟨RJ0, "checkIndex", "(II)V"⟩
def RJ1 : String := "java/lang/StringLatin1"
def TJ1 : u_T := fun k => match k with
  | _ => ("", "", "", false)
def tyJ1 : Nat → FieldType := fun k => match k with
  | _ => .int
abbrev wsJ10 : List Cond := u_ws RJ1 TJ1 0
theorem nmJ1 : ∀ a, a < 0 → ∀ b, b < 0 → a ≠ b → (TJ1 a).2.1 ≠ (TJ1 b).2.1 := by decide +kernel
theorem tyJ1_ok : ∀ k, k < 0 → parseFieldDescriptor (TJ1 k).2.2.1 = some (tyJ1 k) := by decide +kernel
abbrev cJ1_charAt_3b067 : ByteArray := prog_15_method_2_code
def yJ1_charAt_3b067 : MethodName := ⟨RJ1, "charAt", "([BI)C"⟩
def RJ2 : String := "java/lang/StringUTF16"
def TJ2 : u_T := fun k => match k with
  | _ => ("", "", "", false)
def tyJ2 : Nat → FieldType := fun k => match k with
  | _ => .int
abbrev wsJ20 : List Cond := u_ws RJ2 TJ2 0
theorem nmJ2 : ∀ a, a < 0 → ∀ b, b < 0 → a ≠ b → (TJ2 a).2.1 ≠ (TJ2 b).2.1 := by decide +kernel
theorem tyJ2_ok : ∀ k, k < 0 → parseFieldDescriptor (TJ2 k).2.2.1 = some (tyJ2 k) := by decide +kernel
abbrev cJ2_getChar_3b067 : ByteArray := prog_16_method_5_code
def yJ2_getChar_3b067 : MethodName := ⟨RJ2, "getChar", "([BI)C"⟩
abbrev cJ2_length_9d52b : ByteArray := prog_16_method_6_code
def yJ2_length_9d52b : MethodName := ⟨RJ2, "length", "([B)I"⟩
abbrev cJ2_charAt_3b067 : ByteArray := prog_16_method_83_code
def yJ2_charAt_3b067 : MethodName := ⟨RJ2, "charAt", "([BI)C"⟩
abbrev cJ2_checkIndex_2214a : ByteArray := prog_16_method_91_code
def yJ2_checkIndex_2214a : MethodName := ⟨RJ2, "checkIndex", "(I[B)V"⟩
def RJ10 : String := "java/lang/System"
def TJ10 : u_T := fun k => match k with
  | _ => ("", "", "", false)
def tyJ10 : Nat → FieldType := fun k => match k with
  | _ => .int
abbrev wsJ100 : List Cond := u_ws RJ10 TJ10 0
theorem nmJ10 : ∀ a, a < 0 → ∀ b, b < 0 → a ≠ b → (TJ10 a).2.1 ≠ (TJ10 b).2.1 := by decide +kernel
theorem tyJ10_ok : ∀ k, k < 0 → parseFieldDescriptor (TJ10 k).2.2.1 = some (tyJ10 k) := by decide +kernel
def RJ3 : String := "jdk/internal/util/Preconditions"
def TJ3 : u_T := fun k => match k with
  | _ => ("", "", "", false)
def tyJ3 : Nat → FieldType := fun k => match k with
  | _ => .int
abbrev wsJ30 : List Cond := u_ws RJ3 TJ3 0
theorem nmJ3 : ∀ a, a < 0 → ∀ b, b < 0 → a ≠ b → (TJ3 a).2.1 ≠ (TJ3 b).2.1 := by decide +kernel
theorem tyJ3_ok : ∀ k, k < 0 → parseFieldDescriptor (TJ3 k).2.2.1 = some (tyJ3 k) := by decide +kernel
abbrev cJ3_checkIndex_8e157 : ByteArray := prog_18_method_11_code
def yJ3_checkIndex_8e157 : MethodName := ⟨RJ3, "checkIndex", "(IILjava/util/function/BiFunction;)I"⟩
def RL : String := "MoonRoomsLaw"
abbrev cL_law : ByteArray := code
def yL_law : MethodName := ⟨RL, "law", "([I)Z"⟩
abbrev vwCl : List vw_C := [(RX0, TX0, 9), (RX1, TX1, 3), (RX2, TX2, 4), (RX3, TX3, 2), (RX4, TX4, 2), (RX5, TX5, 4), (RX6, TX6, 5), (RX7, TX7, 1), (RX8, TX8, 9), (RX9, TX9, 26)]
end
section
theorem dX0_init_0 : decode cX0_init 0 = .ok (.aload_n 0, 1) := by decide +kernel
theorem dX0_init_1 : decode cX0_init 1 = .ok (.invokespecial 3, 3) := by decide +kernel
theorem dX0_init_4 : decode cX0_init 4 = .ok (.aload_n 0, 1) := by decide +kernel
theorem dX0_init_5 : decode cX0_init 5 = .ok (.iconst 1, 1) := by decide +kernel
theorem dX0_init_6 : decode cX0_init 6 = .ok (.putfield 9, 3) := by decide +kernel
theorem dX0_init_9 : decode cX0_init 9 = .ok (.aload_n 0, 1) := by decide +kernel
theorem dX0_init_10 : decode cX0_init 10 = .ok (.bipush 6, 2) := by decide +kernel
theorem dX0_init_12 : decode cX0_init 12 = .ok (.anewarray 15, 3) := by decide +kernel
theorem dX0_init_15 : decode cX0_init 15 = .ok (.putfield 17, 3) := by decide +kernel
theorem dX0_init_18 : decode cX0_init 18 = .ok (.aload_n 0, 1) := by decide +kernel
theorem dX0_init_19 : decode cX0_init 19 = .ok (.new 21, 3) := by decide +kernel
theorem dX0_init_22 : decode cX0_init 22 = .ok (.dup, 1) := by decide +kernel
theorem dX0_init_23 : decode cX0_init 23 = .ok (.bipush 50, 2) := by decide +kernel
theorem dX0_init_25 : decode cX0_init 25 = .ok (.invokespecial 23, 3) := by decide +kernel
theorem dX0_init_28 : decode cX0_init 28 = .ok (.putfield 26, 3) := by decide +kernel
theorem dX0_init_31 : decode cX0_init 31 = .ok (.aload_n 0, 1) := by decide +kernel
theorem dX0_init_32 : decode cX0_init 32 = .ok (.new 21, 3) := by decide +kernel
theorem dX0_init_35 : decode cX0_init 35 = .ok (.dup, 1) := by decide +kernel
theorem dX0_init_36 : decode cX0_init 36 = .ok (.bipush 20, 2) := by decide +kernel
theorem dX0_init_38 : decode cX0_init 38 = .ok (.invokespecial 23, 3) := by decide +kernel
theorem dX0_init_41 : decode cX0_init 41 = .ok (.putfield 30, 3) := by decide +kernel
theorem dX0_init_44 : decode cX0_init 44 = .ok (.aload_n 0, 1) := by decide +kernel
theorem dX0_init_45 : decode cX0_init 45 = .ok (.new 33, 3) := by decide +kernel
theorem dX0_init_48 : decode cX0_init 48 = .ok (.dup, 1) := by decide +kernel
theorem dX0_init_49 : decode cX0_init 49 = .ok (.iconst 0, 1) := by decide +kernel
theorem dX0_init_50 : decode cX0_init 50 = .ok (.invokespecial 35, 3) := by decide +kernel
theorem dX0_init_53 : decode cX0_init 53 = .ok (.putfield 36, 3) := by decide +kernel
theorem dX0_init_56 : decode cX0_init 56 = .ok (.aload_n 0, 1) := by decide +kernel
theorem dX0_init_57 : decode cX0_init 57 = .ok (.new 33, 3) := by decide +kernel
theorem dX0_init_60 : decode cX0_init 60 = .ok (.dup, 1) := by decide +kernel
theorem dX0_init_61 : decode cX0_init 61 = .ok (.iconst 1, 1) := by decide +kernel
theorem dX0_init_62 : decode cX0_init 62 = .ok (.invokespecial 35, 3) := by decide +kernel
theorem dX0_init_65 : decode cX0_init 65 = .ok (.putfield 40, 3) := by decide +kernel
theorem dX0_init_68 : decode cX0_init 68 = .ok (.iconst 0, 1) := by decide +kernel
theorem dX0_init_69 : decode cX0_init 69 = .ok (.istore_n 1, 1) := by decide +kernel
theorem dX0_init_70 : decode cX0_init 70 = .ok (.iload_n 1, 1) := by decide +kernel
theorem dX0_init_71 : decode cX0_init 71 = .ok (.aload_n 0, 1) := by decide +kernel
theorem dX0_init_72 : decode cX0_init 72 = .ok (.getfield 17, 3) := by decide +kernel
theorem dX0_init_75 : decode cX0_init 75 = .ok (.arraylength, 1) := by decide +kernel
theorem dX0_init_76 : decode cX0_init 76 = .ok (.if_icmp .ge 22, 3) := by decide +kernel
theorem dX0_init_79 : decode cX0_init 79 = .ok (.aload_n 0, 1) := by decide +kernel
theorem dX0_init_80 : decode cX0_init 80 = .ok (.getfield 17, 3) := by decide +kernel
theorem dX0_init_83 : decode cX0_init 83 = .ok (.iload_n 1, 1) := by decide +kernel
theorem dX0_init_84 : decode cX0_init 84 = .ok (.new 15, 3) := by decide +kernel
theorem dX0_init_87 : decode cX0_init 87 = .ok (.dup, 1) := by decide +kernel
theorem dX0_init_88 : decode cX0_init 88 = .ok (.invokespecial 43, 3) := by decide +kernel
theorem dX0_init_91 : decode cX0_init 91 = .ok (.aastore, 1) := by decide +kernel
theorem dX0_init_92 : decode cX0_init 92 = .ok (.iinc 1 1, 3) := by decide +kernel
theorem dX0_init_95 : decode cX0_init 95 = .ok (.goto (-25), 3) := by decide +kernel
theorem dX0_init_98 : decode cX0_init 98 = .ok (.return_, 1) := by decide +kernel
theorem dX0_copyFrom_0 : decode cX0_copyFrom 0 = .ok (.aload_n 0, 1) := by decide +kernel
theorem dX0_copyFrom_1 : decode cX0_copyFrom 1 = .ok (.aload_n 1, 1) := by decide +kernel
theorem dX0_copyFrom_2 : decode cX0_copyFrom 2 = .ok (.getfield 44, 3) := by decide +kernel
theorem dX0_copyFrom_5 : decode cX0_copyFrom 5 = .ok (.putfield 44, 3) := by decide +kernel
theorem dX0_copyFrom_8 : decode cX0_copyFrom 8 = .ok (.aload_n 0, 1) := by decide +kernel
theorem dX0_copyFrom_9 : decode cX0_copyFrom 9 = .ok (.aload_n 1, 1) := by decide +kernel
theorem dX0_copyFrom_10 : decode cX0_copyFrom 10 = .ok (.getfield 47, 3) := by decide +kernel
theorem dX0_copyFrom_13 : decode cX0_copyFrom 13 = .ok (.putfield 47, 3) := by decide +kernel
theorem dX0_copyFrom_16 : decode cX0_copyFrom 16 = .ok (.aload_n 0, 1) := by decide +kernel
theorem dX0_copyFrom_17 : decode cX0_copyFrom 17 = .ok (.aload_n 1, 1) := by decide +kernel
theorem dX0_copyFrom_18 : decode cX0_copyFrom 18 = .ok (.getfield 9, 3) := by decide +kernel
theorem dX0_copyFrom_21 : decode cX0_copyFrom 21 = .ok (.putfield 9, 3) := by decide +kernel
theorem dX0_copyFrom_24 : decode cX0_copyFrom 24 = .ok (.aload_n 0, 1) := by decide +kernel
theorem dX0_copyFrom_25 : decode cX0_copyFrom 25 = .ok (.aload_n 1, 1) := by decide +kernel
theorem dX0_copyFrom_26 : decode cX0_copyFrom 26 = .ok (.getfield 50, 3) := by decide +kernel
theorem dX0_copyFrom_29 : decode cX0_copyFrom 29 = .ok (.putfield 50, 3) := by decide +kernel
theorem dX0_copyFrom_32 : decode cX0_copyFrom 32 = .ok (.iconst 0, 1) := by decide +kernel
theorem dX0_copyFrom_33 : decode cX0_copyFrom 33 = .ok (.istore_n 2, 1) := by decide +kernel
theorem dX0_copyFrom_34 : decode cX0_copyFrom 34 = .ok (.iload_n 2, 1) := by decide +kernel
theorem dX0_copyFrom_35 : decode cX0_copyFrom 35 = .ok (.aload_n 0, 1) := by decide +kernel
theorem dX0_copyFrom_36 : decode cX0_copyFrom 36 = .ok (.getfield 50, 3) := by decide +kernel
theorem dX0_copyFrom_39 : decode cX0_copyFrom 39 = .ok (.if_icmp .ge 37, 3) := by decide +kernel
theorem dX0_copyFrom_42 : decode cX0_copyFrom 42 = .ok (.aload_n 0, 1) := by decide +kernel
theorem dX0_copyFrom_43 : decode cX0_copyFrom 43 = .ok (.iload_n 2, 1) := by decide +kernel
theorem dX0_copyFrom_44 : decode cX0_copyFrom 44 = .ok (.invokevirtual 53, 3) := by decide +kernel
theorem dX0_copyFrom_47 : decode cX0_copyFrom 47 = .ok (.astore_n 3, 1) := by decide +kernel
theorem dX0_copyFrom_48 : decode cX0_copyFrom 48 = .ok (.aload_n 1, 1) := by decide +kernel
theorem dX0_copyFrom_49 : decode cX0_copyFrom 49 = .ok (.iload_n 2, 1) := by decide +kernel
theorem dX0_copyFrom_50 : decode cX0_copyFrom 50 = .ok (.invokevirtual 53, 3) := by decide +kernel
theorem dX0_copyFrom_53 : decode cX0_copyFrom 53 = .ok (.astore 4, 2) := by decide +kernel
theorem dX0_copyFrom_55 : decode cX0_copyFrom 55 = .ok (.aload_n 3, 1) := by decide +kernel
theorem dX0_copyFrom_56 : decode cX0_copyFrom 56 = .ok (.ifnull 14, 3) := by decide +kernel
theorem dX0_copyFrom_59 : decode cX0_copyFrom 59 = .ok (.aload 4, 2) := by decide +kernel
theorem dX0_copyFrom_61 : decode cX0_copyFrom 61 = .ok (.ifnull 9, 3) := by decide +kernel
theorem dX0_copyFrom_64 : decode cX0_copyFrom 64 = .ok (.aload_n 3, 1) := by decide +kernel
theorem dX0_copyFrom_65 : decode cX0_copyFrom 65 = .ok (.aload 4, 2) := by decide +kernel
theorem dX0_copyFrom_67 : decode cX0_copyFrom 67 = .ok (.invokevirtual 57, 3) := by decide +kernel
theorem dX0_copyFrom_70 : decode cX0_copyFrom 70 = .ok (.iinc 2 1, 3) := by decide +kernel
theorem dX0_copyFrom_73 : decode cX0_copyFrom 73 = .ok (.goto (-39), 3) := by decide +kernel
theorem dX0_copyFrom_76 : decode cX0_copyFrom 76 = .ok (.aload_n 0, 1) := by decide +kernel
theorem dX0_copyFrom_77 : decode cX0_copyFrom 77 = .ok (.getfield 26, 3) := by decide +kernel
theorem dX0_copyFrom_80 : decode cX0_copyFrom 80 = .ok (.aload_n 1, 1) := by decide +kernel
theorem dX0_copyFrom_81 : decode cX0_copyFrom 81 = .ok (.getfield 26, 3) := by decide +kernel
theorem dX0_copyFrom_84 : decode cX0_copyFrom 84 = .ok (.invokevirtual 61, 3) := by decide +kernel
theorem dX0_copyFrom_87 : decode cX0_copyFrom 87 = .ok (.aload_n 0, 1) := by decide +kernel
theorem dX0_copyFrom_88 : decode cX0_copyFrom 88 = .ok (.getfield 30, 3) := by decide +kernel
theorem dX0_copyFrom_91 : decode cX0_copyFrom 91 = .ok (.aload_n 1, 1) := by decide +kernel
theorem dX0_copyFrom_92 : decode cX0_copyFrom 92 = .ok (.getfield 30, 3) := by decide +kernel
theorem dX0_copyFrom_95 : decode cX0_copyFrom 95 = .ok (.invokevirtual 61, 3) := by decide +kernel
theorem dX0_copyFrom_98 : decode cX0_copyFrom 98 = .ok (.aload_n 0, 1) := by decide +kernel
theorem dX0_copyFrom_99 : decode cX0_copyFrom 99 = .ok (.getfield 36, 3) := by decide +kernel
theorem dX0_copyFrom_102 : decode cX0_copyFrom 102 = .ok (.aload_n 1, 1) := by decide +kernel
theorem dX0_copyFrom_103 : decode cX0_copyFrom 103 = .ok (.getfield 36, 3) := by decide +kernel
theorem dX0_copyFrom_106 : decode cX0_copyFrom 106 = .ok (.getfield 64, 3) := by decide +kernel
theorem dX0_copyFrom_109 : decode cX0_copyFrom 109 = .ok (.invokevirtual 67, 3) := by decide +kernel
theorem dX0_copyFrom_112 : decode cX0_copyFrom 112 = .ok (.aload_n 0, 1) := by decide +kernel
theorem dX0_copyFrom_113 : decode cX0_copyFrom 113 = .ok (.getfield 40, 3) := by decide +kernel
theorem dX0_copyFrom_116 : decode cX0_copyFrom 116 = .ok (.aload_n 1, 1) := by decide +kernel
theorem dX0_copyFrom_117 : decode cX0_copyFrom 117 = .ok (.getfield 40, 3) := by decide +kernel
theorem dX0_copyFrom_120 : decode cX0_copyFrom 120 = .ok (.getfield 64, 3) := by decide +kernel
theorem dX0_copyFrom_123 : decode cX0_copyFrom 123 = .ok (.invokevirtual 67, 3) := by decide +kernel
theorem dX0_copyFrom_126 : decode cX0_copyFrom 126 = .ok (.return_, 1) := by decide +kernel
theorem dX0_find_0 : decode cX0_find 0 = .ok (.iload_n 1, 1) := by decide +kernel
theorem dX0_find_1 : decode cX0_find 1 = .ok (.ifCond .lt 20, 3) := by decide +kernel
theorem dX0_find_4 : decode cX0_find 4 = .ok (.iload_n 1, 1) := by decide +kernel
theorem dX0_find_5 : decode cX0_find 5 = .ok (.aload_n 0, 1) := by decide +kernel
theorem dX0_find_6 : decode cX0_find 6 = .ok (.getfield 50, 3) := by decide +kernel
theorem dX0_find_9 : decode cX0_find 9 = .ok (.if_icmp .ge 12, 3) := by decide +kernel
theorem dX0_find_12 : decode cX0_find 12 = .ok (.iload_n 1, 1) := by decide +kernel
theorem dX0_find_13 : decode cX0_find 13 = .ok (.aload_n 0, 1) := by decide +kernel
theorem dX0_find_14 : decode cX0_find 14 = .ok (.getfield 17, 3) := by decide +kernel
theorem dX0_find_17 : decode cX0_find 17 = .ok (.arraylength, 1) := by decide +kernel
theorem dX0_find_18 : decode cX0_find 18 = .ok (.if_icmp .lt 7, 3) := by decide +kernel
theorem dX0_find_21 : decode cX0_find 21 = .ok (.aconst_null, 1) := by decide +kernel
theorem dX0_find_22 : decode cX0_find 22 = .ok (.goto 9, 3) := by decide +kernel
theorem dX0_find_25 : decode cX0_find 25 = .ok (.aload_n 0, 1) := by decide +kernel
theorem dX0_find_26 : decode cX0_find 26 = .ok (.getfield 17, 3) := by decide +kernel
theorem dX0_find_29 : decode cX0_find 29 = .ok (.iload_n 1, 1) := by decide +kernel
theorem dX0_find_30 : decode cX0_find 30 = .ok (.aaload, 1) := by decide +kernel
theorem dX0_find_31 : decode cX0_find 31 = .ok (.areturn, 1) := by decide +kernel
theorem dX0_takeIn_0 : decode cX0_takeIn 0 = .ok (.aload_n 0, 1) := by decide +kernel
theorem dX0_takeIn_1 : decode cX0_takeIn 1 = .ok (.getfield 50, 3) := by decide +kernel
theorem dX0_takeIn_4 : decode cX0_takeIn 4 = .ok (.ifCond .lt 15, 3) := by decide +kernel
theorem dX0_takeIn_7 : decode cX0_takeIn 7 = .ok (.aload_n 0, 1) := by decide +kernel
theorem dX0_takeIn_8 : decode cX0_takeIn 8 = .ok (.getfield 50, 3) := by decide +kernel
theorem dX0_takeIn_11 : decode cX0_takeIn 11 = .ok (.aload_n 0, 1) := by decide +kernel
theorem dX0_takeIn_12 : decode cX0_takeIn 12 = .ok (.getfield 17, 3) := by decide +kernel
theorem dX0_takeIn_15 : decode cX0_takeIn 15 = .ok (.arraylength, 1) := by decide +kernel
theorem dX0_takeIn_16 : decode cX0_takeIn 16 = .ok (.if_icmp .lt 7, 3) := by decide +kernel
theorem dX0_takeIn_19 : decode cX0_takeIn 19 = .ok (.aconst_null, 1) := by decide +kernel
theorem dX0_takeIn_20 : decode cX0_takeIn 20 = .ok (.goto 12, 3) := by decide +kernel
theorem dX0_takeIn_23 : decode cX0_takeIn 23 = .ok (.aload_n 0, 1) := by decide +kernel
theorem dX0_takeIn_24 : decode cX0_takeIn 24 = .ok (.getfield 17, 3) := by decide +kernel
theorem dX0_takeIn_27 : decode cX0_takeIn 27 = .ok (.aload_n 0, 1) := by decide +kernel
theorem dX0_takeIn_28 : decode cX0_takeIn 28 = .ok (.getfield 50, 3) := by decide +kernel
theorem dX0_takeIn_31 : decode cX0_takeIn 31 = .ok (.aaload, 1) := by decide +kernel
theorem dX0_takeIn_32 : decode cX0_takeIn 32 = .ok (.astore_n 3, 1) := by decide +kernel
theorem dX0_takeIn_33 : decode cX0_takeIn 33 = .ok (.aload_n 3, 1) := by decide +kernel
theorem dX0_takeIn_34 : decode cX0_takeIn 34 = .ok (.ifnonnull 5, 3) := by decide +kernel
theorem dX0_takeIn_37 : decode cX0_takeIn 37 = .ok (.iconst (-1), 1) := by decide +kernel
theorem dX0_takeIn_38 : decode cX0_takeIn 38 = .ok (.ireturn, 1) := by decide +kernel
theorem dX0_takeIn_39 : decode cX0_takeIn 39 = .ok (.aload_n 3, 1) := by decide +kernel
theorem dX0_takeIn_40 : decode cX0_takeIn 40 = .ok (.iload_n 1, 1) := by decide +kernel
theorem dX0_takeIn_41 : decode cX0_takeIn 41 = .ok (.putfield 68, 3) := by decide +kernel
theorem dX0_takeIn_44 : decode cX0_takeIn 44 = .ok (.aload_n 3, 1) := by decide +kernel
theorem dX0_takeIn_45 : decode cX0_takeIn 45 = .ok (.iload_n 2, 1) := by decide +kernel
theorem dX0_takeIn_46 : decode cX0_takeIn 46 = .ok (.putfield 71, 3) := by decide +kernel
theorem dX0_takeIn_49 : decode cX0_takeIn 49 = .ok (.aload_n 3, 1) := by decide +kernel
theorem dX0_takeIn_50 : decode cX0_takeIn 50 = .ok (.iconst 0, 1) := by decide +kernel
theorem dX0_takeIn_51 : decode cX0_takeIn 51 = .ok (.putfield 74, 3) := by decide +kernel
theorem dX0_takeIn_54 : decode cX0_takeIn 54 = .ok (.aload_n 3, 1) := by decide +kernel
theorem dX0_takeIn_55 : decode cX0_takeIn 55 = .ok (.iconst 0, 1) := by decide +kernel
theorem dX0_takeIn_56 : decode cX0_takeIn 56 = .ok (.putfield 77, 3) := by decide +kernel
theorem dX0_takeIn_59 : decode cX0_takeIn 59 = .ok (.aload_n 3, 1) := by decide +kernel
theorem dX0_takeIn_60 : decode cX0_takeIn 60 = .ok (.iconst 0, 1) := by decide +kernel
theorem dX0_takeIn_61 : decode cX0_takeIn 61 = .ok (.putfield 80, 3) := by decide +kernel
theorem dX0_takeIn_64 : decode cX0_takeIn 64 = .ok (.aload_n 0, 1) := by decide +kernel
theorem dX0_takeIn_65 : decode cX0_takeIn 65 = .ok (.dup, 1) := by decide +kernel
theorem dX0_takeIn_66 : decode cX0_takeIn 66 = .ok (.getfield 50, 3) := by decide +kernel
theorem dX0_takeIn_69 : decode cX0_takeIn 69 = .ok (.iconst 1, 1) := by decide +kernel
theorem dX0_takeIn_70 : decode cX0_takeIn 70 = .ok (.iadd, 1) := by decide +kernel
theorem dX0_takeIn_71 : decode cX0_takeIn 71 = .ok (.putfield 50, 3) := by decide +kernel
theorem dX0_takeIn_74 : decode cX0_takeIn 74 = .ok (.aload_n 0, 1) := by decide +kernel
theorem dX0_takeIn_75 : decode cX0_takeIn 75 = .ok (.getfield 50, 3) := by decide +kernel
theorem dX0_takeIn_78 : decode cX0_takeIn 78 = .ok (.iconst 1, 1) := by decide +kernel
theorem dX0_takeIn_79 : decode cX0_takeIn 79 = .ok (.isub, 1) := by decide +kernel
theorem dX0_takeIn_80 : decode cX0_takeIn 80 = .ok (.ireturn, 1) := by decide +kernel
theorem dX0_lawOf_0 : decode cX0_lawOf 0 = .ok (.iload_n 1, 1) := by decide +kernel
theorem dX0_lawOf_1 : decode cX0_lawOf 1 = .ok (.ifCond .ne 10, 3) := by decide +kernel
theorem dX0_lawOf_4 : decode cX0_lawOf 4 = .ok (.aload_n 0, 1) := by decide +kernel
theorem dX0_lawOf_5 : decode cX0_lawOf 5 = .ok (.getfield 36, 3) := by decide +kernel
theorem dX0_lawOf_8 : decode cX0_lawOf 8 = .ok (.goto 7, 3) := by decide +kernel
theorem dX0_lawOf_11 : decode cX0_lawOf 11 = .ok (.aload_n 0, 1) := by decide +kernel
theorem dX0_lawOf_12 : decode cX0_lawOf 12 = .ok (.getfield 40, 3) := by decide +kernel
theorem dX0_lawOf_15 : decode cX0_lawOf 15 = .ok (.areturn, 1) := by decide +kernel
theorem dX0_seenIn_0 : decode cX0_seenIn 0 = .ok (.iload_n 1, 1) := by decide +kernel
theorem dX0_seenIn_1 : decode cX0_seenIn 1 = .ok (.bipush 16, 2) := by decide +kernel
theorem dX0_seenIn_3 : decode cX0_seenIn 3 = .ok (.irem, 1) := by decide +kernel
theorem dX0_seenIn_4 : decode cX0_seenIn 4 = .ok (.istore_n 2, 1) := by decide +kernel
theorem dX0_seenIn_5 : decode cX0_seenIn 5 = .ok (.aload_n 0, 1) := by decide +kernel
theorem dX0_seenIn_6 : decode cX0_seenIn 6 = .ok (.getfield 36, 3) := by decide +kernel
theorem dX0_seenIn_9 : decode cX0_seenIn 9 = .ok (.iload_n 1, 1) := by decide +kernel
theorem dX0_seenIn_10 : decode cX0_seenIn 10 = .ok (.iload_n 2, 1) := by decide +kernel
theorem dX0_seenIn_11 : decode cX0_seenIn 11 = .ok (.aload_n 0, 1) := by decide +kernel
theorem dX0_seenIn_12 : decode cX0_seenIn 12 = .ok (.getfield 47, 3) := by decide +kernel
theorem dX0_seenIn_15 : decode cX0_seenIn 15 = .ok (.invokevirtual 84, 3) := by decide +kernel
theorem dX0_seenIn_18 : decode cX0_seenIn 18 = .ok (.ifCond .eq 7, 3) := by decide +kernel
theorem dX0_seenIn_21 : decode cX0_seenIn 21 = .ok (.iconst 0, 1) := by decide +kernel
theorem dX0_seenIn_22 : decode cX0_seenIn 22 = .ok (.goto 7, 3) := by decide +kernel
theorem dX0_seenIn_25 : decode cX0_seenIn 25 = .ok (.iload_n 2, 1) := by decide +kernel
theorem dX0_seenIn_26 : decode cX0_seenIn 26 = .ok (.invokestatic 88, 3) := by decide +kernel
theorem dX0_seenIn_29 : decode cX0_seenIn 29 = .ok (.ireturn, 1) := by decide +kernel
theorem dX0_holdersOf_0 : decode cX0_holdersOf 0 = .ok (.iconst 0, 1) := by decide +kernel
theorem dX0_holdersOf_1 : decode cX0_holdersOf 1 = .ok (.istore_n 2, 1) := by decide +kernel
theorem dX0_holdersOf_2 : decode cX0_holdersOf 2 = .ok (.iconst 0, 1) := by decide +kernel
theorem dX0_holdersOf_3 : decode cX0_holdersOf 3 = .ok (.istore_n 3, 1) := by decide +kernel
theorem dX0_holdersOf_4 : decode cX0_holdersOf 4 = .ok (.iload_n 3, 1) := by decide +kernel
theorem dX0_holdersOf_5 : decode cX0_holdersOf 5 = .ok (.aload_n 0, 1) := by decide +kernel
theorem dX0_holdersOf_6 : decode cX0_holdersOf 6 = .ok (.getfield 50, 3) := by decide +kernel
theorem dX0_holdersOf_9 : decode cX0_holdersOf 9 = .ok (.if_icmp .ge 37, 3) := by decide +kernel
theorem dX0_holdersOf_12 : decode cX0_holdersOf 12 = .ok (.aload_n 0, 1) := by decide +kernel
theorem dX0_holdersOf_13 : decode cX0_holdersOf 13 = .ok (.iload_n 3, 1) := by decide +kernel
theorem dX0_holdersOf_14 : decode cX0_holdersOf 14 = .ok (.invokevirtual 53, 3) := by decide +kernel
theorem dX0_holdersOf_17 : decode cX0_holdersOf 17 = .ok (.astore 4, 2) := by decide +kernel
theorem dX0_holdersOf_19 : decode cX0_holdersOf 19 = .ok (.aload 4, 2) := by decide +kernel
theorem dX0_holdersOf_21 : decode cX0_holdersOf 21 = .ok (.ifnull 19, 3) := by decide +kernel
theorem dX0_holdersOf_24 : decode cX0_holdersOf 24 = .ok (.aload 4, 2) := by decide +kernel
theorem dX0_holdersOf_26 : decode cX0_holdersOf 26 = .ok (.getfield 74, 3) := by decide +kernel
theorem dX0_holdersOf_29 : decode cX0_holdersOf 29 = .ok (.iload_n 1, 1) := by decide +kernel
theorem dX0_holdersOf_30 : decode cX0_holdersOf 30 = .ok (.iand, 1) := by decide +kernel
theorem dX0_holdersOf_31 : decode cX0_holdersOf 31 = .ok (.ifCond .eq 9, 3) := by decide +kernel
theorem dX0_holdersOf_34 : decode cX0_holdersOf 34 = .ok (.iload_n 2, 1) := by decide +kernel
theorem dX0_holdersOf_35 : decode cX0_holdersOf 35 = .ok (.iconst 1, 1) := by decide +kernel
theorem dX0_holdersOf_36 : decode cX0_holdersOf 36 = .ok (.iload_n 3, 1) := by decide +kernel
theorem dX0_holdersOf_37 : decode cX0_holdersOf 37 = .ok (.ishl, 1) := by decide +kernel
theorem dX0_holdersOf_38 : decode cX0_holdersOf 38 = .ok (.ior, 1) := by decide +kernel
theorem dX0_holdersOf_39 : decode cX0_holdersOf 39 = .ok (.istore_n 2, 1) := by decide +kernel
theorem dX0_holdersOf_40 : decode cX0_holdersOf 40 = .ok (.iinc 3 1, 3) := by decide +kernel
theorem dX0_holdersOf_43 : decode cX0_holdersOf 43 = .ok (.goto (-39), 3) := by decide +kernel
theorem dX0_holdersOf_46 : decode cX0_holdersOf 46 = .ok (.iload_n 2, 1) := by decide +kernel
theorem dX0_holdersOf_47 : decode cX0_holdersOf 47 = .ok (.ireturn, 1) := by decide +kernel
theorem dX0_heldByOthers_0 : decode cX0_heldByOthers 0 = .ok (.iconst 0, 1) := by decide +kernel
theorem dX0_heldByOthers_1 : decode cX0_heldByOthers 1 = .ok (.istore_n 2, 1) := by decide +kernel
theorem dX0_heldByOthers_2 : decode cX0_heldByOthers 2 = .ok (.iconst 0, 1) := by decide +kernel
theorem dX0_heldByOthers_3 : decode cX0_heldByOthers 3 = .ok (.istore_n 3, 1) := by decide +kernel
theorem dX0_heldByOthers_4 : decode cX0_heldByOthers 4 = .ok (.iload_n 3, 1) := by decide +kernel
theorem dX0_heldByOthers_5 : decode cX0_heldByOthers 5 = .ok (.aload_n 0, 1) := by decide +kernel
theorem dX0_heldByOthers_6 : decode cX0_heldByOthers 6 = .ok (.getfield 50, 3) := by decide +kernel
theorem dX0_heldByOthers_9 : decode cX0_heldByOthers 9 = .ok (.if_icmp .ge 34, 3) := by decide +kernel
theorem dX0_heldByOthers_12 : decode cX0_heldByOthers 12 = .ok (.aload_n 0, 1) := by decide +kernel
theorem dX0_heldByOthers_13 : decode cX0_heldByOthers 13 = .ok (.iload_n 3, 1) := by decide +kernel
theorem dX0_heldByOthers_14 : decode cX0_heldByOthers 14 = .ok (.invokevirtual 53, 3) := by decide +kernel
theorem dX0_heldByOthers_17 : decode cX0_heldByOthers 17 = .ok (.astore 4, 2) := by decide +kernel
theorem dX0_heldByOthers_19 : decode cX0_heldByOthers 19 = .ok (.aload 4, 2) := by decide +kernel
theorem dX0_heldByOthers_21 : decode cX0_heldByOthers 21 = .ok (.ifnull 16, 3) := by decide +kernel
theorem dX0_heldByOthers_24 : decode cX0_heldByOthers 24 = .ok (.iload_n 3, 1) := by decide +kernel
theorem dX0_heldByOthers_25 : decode cX0_heldByOthers 25 = .ok (.iload_n 1, 1) := by decide +kernel
theorem dX0_heldByOthers_26 : decode cX0_heldByOthers 26 = .ok (.if_icmp .eq 11, 3) := by decide +kernel
theorem dX0_heldByOthers_29 : decode cX0_heldByOthers 29 = .ok (.iload_n 2, 1) := by decide +kernel
theorem dX0_heldByOthers_30 : decode cX0_heldByOthers 30 = .ok (.aload 4, 2) := by decide +kernel
theorem dX0_heldByOthers_32 : decode cX0_heldByOthers 32 = .ok (.getfield 74, 3) := by decide +kernel
theorem dX0_heldByOthers_35 : decode cX0_heldByOthers 35 = .ok (.ior, 1) := by decide +kernel
theorem dX0_heldByOthers_36 : decode cX0_heldByOthers 36 = .ok (.istore_n 2, 1) := by decide +kernel
theorem dX0_heldByOthers_37 : decode cX0_heldByOthers 37 = .ok (.iinc 3 1, 3) := by decide +kernel
theorem dX0_heldByOthers_40 : decode cX0_heldByOthers 40 = .ok (.goto (-36), 3) := by decide +kernel
theorem dX0_heldByOthers_43 : decode cX0_heldByOthers 43 = .ok (.iload_n 2, 1) := by decide +kernel
theorem dX0_heldByOthers_44 : decode cX0_heldByOthers 44 = .ok (.ireturn, 1) := by decide +kernel
theorem dX0_sharersWith_0 : decode cX0_sharersWith 0 = .ok (.aload_n 0, 1) := by decide +kernel
theorem dX0_sharersWith_1 : decode cX0_sharersWith 1 = .ok (.iload_n 1, 1) := by decide +kernel
theorem dX0_sharersWith_2 : decode cX0_sharersWith 2 = .ok (.invokevirtual 53, 3) := by decide +kernel
theorem dX0_sharersWith_5 : decode cX0_sharersWith 5 = .ok (.astore_n 2, 1) := by decide +kernel
theorem dX0_sharersWith_6 : decode cX0_sharersWith 6 = .ok (.aload_n 2, 1) := by decide +kernel
theorem dX0_sharersWith_7 : decode cX0_sharersWith 7 = .ok (.ifnonnull 5, 3) := by decide +kernel
theorem dX0_sharersWith_10 : decode cX0_sharersWith 10 = .ok (.iconst 0, 1) := by decide +kernel
theorem dX0_sharersWith_11 : decode cX0_sharersWith 11 = .ok (.ireturn, 1) := by decide +kernel
theorem dX0_sharersWith_12 : decode cX0_sharersWith 12 = .ok (.aload_n 0, 1) := by decide +kernel
theorem dX0_sharersWith_13 : decode cX0_sharersWith 13 = .ok (.aload_n 2, 1) := by decide +kernel
theorem dX0_sharersWith_14 : decode cX0_sharersWith 14 = .ok (.getfield 74, 3) := by decide +kernel
theorem dX0_sharersWith_17 : decode cX0_sharersWith 17 = .ok (.invokevirtual 92, 3) := by decide +kernel
theorem dX0_sharersWith_20 : decode cX0_sharersWith 20 = .ok (.iconst 1, 1) := by decide +kernel
theorem dX0_sharersWith_21 : decode cX0_sharersWith 21 = .ok (.iload_n 1, 1) := by decide +kernel
theorem dX0_sharersWith_22 : decode cX0_sharersWith 22 = .ok (.ishl, 1) := by decide +kernel
theorem dX0_sharersWith_23 : decode cX0_sharersWith 23 = .ok (.iconst (-1), 1) := by decide +kernel
theorem dX0_sharersWith_24 : decode cX0_sharersWith 24 = .ok (.ixor, 1) := by decide +kernel
theorem dX0_sharersWith_25 : decode cX0_sharersWith 25 = .ok (.iand, 1) := by decide +kernel
theorem dX0_sharersWith_26 : decode cX0_sharersWith 26 = .ok (.invokestatic 95, 3) := by decide +kernel
theorem dX0_sharersWith_29 : decode cX0_sharersWith 29 = .ok (.ireturn, 1) := by decide +kernel
theorem dX0_howManyEvicted_0 : decode cX0_howManyEvicted 0 = .ok (.iconst 0, 1) := by decide +kernel
theorem dX0_howManyEvicted_1 : decode cX0_howManyEvicted 1 = .ok (.istore_n 1, 1) := by decide +kernel
theorem dX0_howManyEvicted_2 : decode cX0_howManyEvicted 2 = .ok (.iconst 0, 1) := by decide +kernel
theorem dX0_howManyEvicted_3 : decode cX0_howManyEvicted 3 = .ok (.istore_n 2, 1) := by decide +kernel
theorem dX0_howManyEvicted_4 : decode cX0_howManyEvicted 4 = .ok (.iload_n 2, 1) := by decide +kernel
theorem dX0_howManyEvicted_5 : decode cX0_howManyEvicted 5 = .ok (.aload_n 0, 1) := by decide +kernel
theorem dX0_howManyEvicted_6 : decode cX0_howManyEvicted 6 = .ok (.getfield 50, 3) := by decide +kernel
theorem dX0_howManyEvicted_9 : decode cX0_howManyEvicted 9 = .ok (.if_icmp .ge 29, 3) := by decide +kernel
theorem dX0_howManyEvicted_12 : decode cX0_howManyEvicted 12 = .ok (.aload_n 0, 1) := by decide +kernel
theorem dX0_howManyEvicted_13 : decode cX0_howManyEvicted 13 = .ok (.iload_n 2, 1) := by decide +kernel
theorem dX0_howManyEvicted_14 : decode cX0_howManyEvicted 14 = .ok (.invokevirtual 53, 3) := by decide +kernel
theorem dX0_howManyEvicted_17 : decode cX0_howManyEvicted 17 = .ok (.astore_n 3, 1) := by decide +kernel
theorem dX0_howManyEvicted_18 : decode cX0_howManyEvicted 18 = .ok (.aload_n 3, 1) := by decide +kernel
theorem dX0_howManyEvicted_19 : decode cX0_howManyEvicted 19 = .ok (.ifnull 13, 3) := by decide +kernel
theorem dX0_howManyEvicted_22 : decode cX0_howManyEvicted 22 = .ok (.aload_n 3, 1) := by decide +kernel
theorem dX0_howManyEvicted_23 : decode cX0_howManyEvicted 23 = .ok (.getfield 80, 3) := by decide +kernel
theorem dX0_howManyEvicted_26 : decode cX0_howManyEvicted 26 = .ok (.ifCond .eq 6, 3) := by decide +kernel
theorem dX0_howManyEvicted_29 : decode cX0_howManyEvicted 29 = .ok (.iinc 1 1, 3) := by decide +kernel
theorem dX0_howManyEvicted_32 : decode cX0_howManyEvicted 32 = .ok (.iinc 2 1, 3) := by decide +kernel
theorem dX0_howManyEvicted_35 : decode cX0_howManyEvicted 35 = .ok (.goto (-31), 3) := by decide +kernel
theorem dX0_howManyEvicted_38 : decode cX0_howManyEvicted 38 = .ok (.iload_n 1, 1) := by decide +kernel
theorem dX0_howManyEvicted_39 : decode cX0_howManyEvicted 39 = .ok (.ireturn, 1) := by decide +kernel
theorem dX0_rentTogether_0 : decode cX0_rentTogether 0 = .ok (.iconst 0, 1) := by decide +kernel
theorem dX0_rentTogether_1 : decode cX0_rentTogether 1 = .ok (.istore_n 2, 1) := by decide +kernel
theorem dX0_rentTogether_2 : decode cX0_rentTogether 2 = .ok (.iconst 0, 1) := by decide +kernel
theorem dX0_rentTogether_3 : decode cX0_rentTogether 3 = .ok (.istore_n 3, 1) := by decide +kernel
theorem dX0_rentTogether_4 : decode cX0_rentTogether 4 = .ok (.iload_n 3, 1) := by decide +kernel
theorem dX0_rentTogether_5 : decode cX0_rentTogether 5 = .ok (.bipush 24, 2) := by decide +kernel
theorem dX0_rentTogether_7 : decode cX0_rentTogether 7 = .ok (.if_icmp .ge 45, 3) := by decide +kernel
theorem dX0_rentTogether_10 : decode cX0_rentTogether 10 = .ok (.iload_n 1, 1) := by decide +kernel
theorem dX0_rentTogether_11 : decode cX0_rentTogether 11 = .ok (.iload_n 3, 1) := by decide +kernel
theorem dX0_rentTogether_12 : decode cX0_rentTogether 12 = .ok (.ishr, 1) := by decide +kernel
theorem dX0_rentTogether_13 : decode cX0_rentTogether 13 = .ok (.iconst 1, 1) := by decide +kernel
theorem dX0_rentTogether_14 : decode cX0_rentTogether 14 = .ok (.iand, 1) := by decide +kernel
theorem dX0_rentTogether_15 : decode cX0_rentTogether 15 = .ok (.ifCond .eq 31, 3) := by decide +kernel
theorem dX0_rentTogether_18 : decode cX0_rentTogether 18 = .ok (.iload_n 2, 1) := by decide +kernel
theorem dX0_rentTogether_19 : decode cX0_rentTogether 19 = .ok (.aload_n 0, 1) := by decide +kernel
theorem dX0_rentTogether_20 : decode cX0_rentTogether 20 = .ok (.getfield 40, 3) := by decide +kernel
theorem dX0_rentTogether_23 : decode cX0_rentTogether 23 = .ok (.iload_n 3, 1) := by decide +kernel
theorem dX0_rentTogether_24 : decode cX0_rentTogether 24 = .ok (.bipush 8, 2) := by decide +kernel
theorem dX0_rentTogether_26 : decode cX0_rentTogether 26 = .ok (.idiv, 1) := by decide +kernel
theorem dX0_rentTogether_27 : decode cX0_rentTogether 27 = .ok (.iload_n 3, 1) := by decide +kernel
theorem dX0_rentTogether_28 : decode cX0_rentTogether 28 = .ok (.bipush 8, 2) := by decide +kernel
theorem dX0_rentTogether_30 : decode cX0_rentTogether 30 = .ok (.irem, 1) := by decide +kernel
theorem dX0_rentTogether_31 : decode cX0_rentTogether 31 = .ok (.aload_n 0, 1) := by decide +kernel
theorem dX0_rentTogether_32 : decode cX0_rentTogether 32 = .ok (.iconst 1, 1) := by decide +kernel
theorem dX0_rentTogether_33 : decode cX0_rentTogether 33 = .ok (.iload_n 3, 1) := by decide +kernel
theorem dX0_rentTogether_34 : decode cX0_rentTogether 34 = .ok (.ishl, 1) := by decide +kernel
theorem dX0_rentTogether_35 : decode cX0_rentTogether 35 = .ok (.invokevirtual 92, 3) := by decide +kernel
theorem dX0_rentTogether_38 : decode cX0_rentTogether 38 = .ok (.invokestatic 95, 3) := by decide +kernel
theorem dX0_rentTogether_41 : decode cX0_rentTogether 41 = .ok (.invokevirtual 84, 3) := by decide +kernel
theorem dX0_rentTogether_44 : decode cX0_rentTogether 44 = .ok (.iadd, 1) := by decide +kernel
theorem dX0_rentTogether_45 : decode cX0_rentTogether 45 = .ok (.istore_n 2, 1) := by decide +kernel
theorem dX0_rentTogether_46 : decode cX0_rentTogether 46 = .ok (.iinc 3 1, 3) := by decide +kernel
theorem dX0_rentTogether_49 : decode cX0_rentTogether 49 = .ok (.goto (-45), 3) := by decide +kernel
theorem dX0_rentTogether_52 : decode cX0_rentTogether 52 = .ok (.iload_n 2, 1) := by decide +kernel
theorem dX0_rentTogether_53 : decode cX0_rentTogether 53 = .ok (.ireturn, 1) := by decide +kernel
theorem dX0_passNights_0 : decode cX0_passNights 0 = .ok (.iconst 0, 1) := by decide +kernel
theorem dX0_passNights_1 : decode cX0_passNights 1 = .ok (.istore_n 2, 1) := by decide +kernel
theorem dX0_passNights_2 : decode cX0_passNights 2 = .ok (.iload_n 2, 1) := by decide +kernel
theorem dX0_passNights_3 : decode cX0_passNights 3 = .ok (.iload_n 1, 1) := by decide +kernel
theorem dX0_passNights_4 : decode cX0_passNights 4 = .ok (.if_icmp .ge 36, 3) := by decide +kernel
theorem dX0_passNights_7 : decode cX0_passNights 7 = .ok (.aload_n 0, 1) := by decide +kernel
theorem dX0_passNights_8 : decode cX0_passNights 8 = .ok (.invokevirtual 100, 3) := by decide +kernel
theorem dX0_passNights_11 : decode cX0_passNights 11 = .ok (.aload_n 0, 1) := by decide +kernel
theorem dX0_passNights_12 : decode cX0_passNights 12 = .ok (.dup, 1) := by decide +kernel
theorem dX0_passNights_13 : decode cX0_passNights 13 = .ok (.getfield 44, 3) := by decide +kernel
theorem dX0_passNights_16 : decode cX0_passNights 16 = .ok (.iconst 1, 1) := by decide +kernel
theorem dX0_passNights_17 : decode cX0_passNights 17 = .ok (.iadd, 1) := by decide +kernel
theorem dX0_passNights_18 : decode cX0_passNights 18 = .ok (.putfield 44, 3) := by decide +kernel
theorem dX0_passNights_21 : decode cX0_passNights 21 = .ok (.aload_n 0, 1) := by decide +kernel
theorem dX0_passNights_22 : decode cX0_passNights 22 = .ok (.getfield 44, 3) := by decide +kernel
theorem dX0_passNights_25 : decode cX0_passNights 25 = .ok (.iconst 4, 1) := by decide +kernel
theorem dX0_passNights_26 : decode cX0_passNights 26 = .ok (.irem, 1) := by decide +kernel
theorem dX0_passNights_27 : decode cX0_passNights 27 = .ok (.ifCond .ne 7, 3) := by decide +kernel
theorem dX0_passNights_30 : decode cX0_passNights 30 = .ok (.aload_n 0, 1) := by decide +kernel
theorem dX0_passNights_31 : decode cX0_passNights 31 = .ok (.invokevirtual 103, 3) := by decide +kernel
theorem dX0_passNights_34 : decode cX0_passNights 34 = .ok (.iinc 2 1, 3) := by decide +kernel
theorem dX0_passNights_37 : decode cX0_passNights 37 = .ok (.goto (-35), 3) := by decide +kernel
theorem dX0_passNights_40 : decode cX0_passNights 40 = .ok (.return_, 1) := by decide +kernel
theorem dX0_earnAll_0 : decode cX0_earnAll 0 = .ok (.aload_n 0, 1) := by decide +kernel
theorem dX0_earnAll_1 : decode cX0_earnAll 1 = .ok (.aload_n 0, 1) := by decide +kernel
theorem dX0_earnAll_2 : decode cX0_earnAll 2 = .ok (.getfield 44, 3) := by decide +kernel
theorem dX0_earnAll_5 : decode cX0_earnAll 5 = .ok (.invokevirtual 106, 3) := by decide +kernel
theorem dX0_earnAll_8 : decode cX0_earnAll 8 = .ok (.istore_n 1, 1) := by decide +kernel
theorem dX0_earnAll_9 : decode cX0_earnAll 9 = .ok (.iconst 0, 1) := by decide +kernel
theorem dX0_earnAll_10 : decode cX0_earnAll 10 = .ok (.istore_n 2, 1) := by decide +kernel
theorem dX0_earnAll_11 : decode cX0_earnAll 11 = .ok (.iload_n 2, 1) := by decide +kernel
theorem dX0_earnAll_12 : decode cX0_earnAll 12 = .ok (.aload_n 0, 1) := by decide +kernel
theorem dX0_earnAll_13 : decode cX0_earnAll 13 = .ok (.getfield 50, 3) := by decide +kernel
theorem dX0_earnAll_16 : decode cX0_earnAll 16 = .ok (.if_icmp .ge 35, 3) := by decide +kernel
theorem dX0_earnAll_19 : decode cX0_earnAll 19 = .ok (.aload_n 0, 1) := by decide +kernel
theorem dX0_earnAll_20 : decode cX0_earnAll 20 = .ok (.iload_n 2, 1) := by decide +kernel
theorem dX0_earnAll_21 : decode cX0_earnAll 21 = .ok (.invokevirtual 53, 3) := by decide +kernel
theorem dX0_earnAll_24 : decode cX0_earnAll 24 = .ok (.astore_n 3, 1) := by decide +kernel
theorem dX0_earnAll_25 : decode cX0_earnAll 25 = .ok (.aload_n 3, 1) := by decide +kernel
theorem dX0_earnAll_26 : decode cX0_earnAll 26 = .ok (.ifnull 19, 3) := by decide +kernel
theorem dX0_earnAll_29 : decode cX0_earnAll 29 = .ok (.aload_n 3, 1) := by decide +kernel
theorem dX0_earnAll_30 : decode cX0_earnAll 30 = .ok (.getfield 80, 3) := by decide +kernel
theorem dX0_earnAll_33 : decode cX0_earnAll 33 = .ok (.ifCond .ne 12, 3) := by decide +kernel
theorem dX0_earnAll_36 : decode cX0_earnAll 36 = .ok (.aload_n 3, 1) := by decide +kernel
theorem dX0_earnAll_37 : decode cX0_earnAll 37 = .ok (.aload_n 0, 1) := by decide +kernel
theorem dX0_earnAll_38 : decode cX0_earnAll 38 = .ok (.getfield 44, 3) := by decide +kernel
theorem dX0_earnAll_41 : decode cX0_earnAll 41 = .ok (.iload_n 1, 1) := by decide +kernel
theorem dX0_earnAll_42 : decode cX0_earnAll 42 = .ok (.invokevirtual 109, 3) := by decide +kernel
theorem dX0_earnAll_45 : decode cX0_earnAll 45 = .ok (.iinc 2 1, 3) := by decide +kernel
theorem dX0_earnAll_48 : decode cX0_earnAll 48 = .ok (.goto (-37), 3) := by decide +kernel
theorem dX0_earnAll_51 : decode cX0_earnAll 51 = .ok (.return_, 1) := by decide +kernel
theorem dX0_payAll_0 : decode cX0_payAll 0 = .ok (.iconst 0, 1) := by decide +kernel
theorem dX0_payAll_1 : decode cX0_payAll 1 = .ok (.istore_n 1, 1) := by decide +kernel
theorem dX0_payAll_2 : decode cX0_payAll 2 = .ok (.iload_n 1, 1) := by decide +kernel
theorem dX0_payAll_3 : decode cX0_payAll 3 = .ok (.aload_n 0, 1) := by decide +kernel
theorem dX0_payAll_4 : decode cX0_payAll 4 = .ok (.getfield 50, 3) := by decide +kernel
theorem dX0_payAll_7 : decode cX0_payAll 7 = .ok (.if_icmp .ge 47, 3) := by decide +kernel
theorem dX0_payAll_10 : decode cX0_payAll 10 = .ok (.aload_n 0, 1) := by decide +kernel
theorem dX0_payAll_11 : decode cX0_payAll 11 = .ok (.iload_n 1, 1) := by decide +kernel
theorem dX0_payAll_12 : decode cX0_payAll 12 = .ok (.invokevirtual 53, 3) := by decide +kernel
theorem dX0_payAll_15 : decode cX0_payAll 15 = .ok (.astore_n 2, 1) := by decide +kernel
theorem dX0_payAll_16 : decode cX0_payAll 16 = .ok (.aload_n 2, 1) := by decide +kernel
theorem dX0_payAll_17 : decode cX0_payAll 17 = .ok (.ifnull 31, 3) := by decide +kernel
theorem dX0_payAll_20 : decode cX0_payAll 20 = .ok (.aload_n 2, 1) := by decide +kernel
theorem dX0_payAll_21 : decode cX0_payAll 21 = .ok (.getfield 80, 3) := by decide +kernel
theorem dX0_payAll_24 : decode cX0_payAll 24 = .ok (.ifCond .ne 24, 3) := by decide +kernel
theorem dX0_payAll_27 : decode cX0_payAll 27 = .ok (.aload_n 2, 1) := by decide +kernel
theorem dX0_payAll_28 : decode cX0_payAll 28 = .ok (.aload_n 2, 1) := by decide +kernel
theorem dX0_payAll_29 : decode cX0_payAll 29 = .ok (.aload_n 0, 1) := by decide +kernel
theorem dX0_payAll_30 : decode cX0_payAll 30 = .ok (.aload_n 2, 1) := by decide +kernel
theorem dX0_payAll_31 : decode cX0_payAll 31 = .ok (.getfield 74, 3) := by decide +kernel
theorem dX0_payAll_34 : decode cX0_payAll 34 = .ok (.invokevirtual 113, 3) := by decide +kernel
theorem dX0_payAll_37 : decode cX0_payAll 37 = .ok (.aload_n 0, 1) := by decide +kernel
theorem dX0_payAll_38 : decode cX0_payAll 38 = .ok (.iload_n 1, 1) := by decide +kernel
theorem dX0_payAll_39 : decode cX0_payAll 39 = .ok (.invokevirtual 116, 3) := by decide +kernel
theorem dX0_payAll_42 : decode cX0_payAll 42 = .ok (.invokevirtual 119, 3) := by decide +kernel
theorem dX0_payAll_45 : decode cX0_payAll 45 = .ok (.invokevirtual 123, 3) := by decide +kernel
theorem dX0_payAll_48 : decode cX0_payAll 48 = .ok (.iinc 1 1, 3) := by decide +kernel
theorem dX0_payAll_51 : decode cX0_payAll 51 = .ok (.goto (-49), 3) := by decide +kernel
theorem dX0_payAll_54 : decode cX0_payAll 54 = .ok (.return_, 1) := by decide +kernel
theorem dX0_draw_0 : decode cX0_draw 0 = .ok (.aload_n 0, 1) := by decide +kernel
theorem dX0_draw_1 : decode cX0_draw 1 = .ok (.aload_n 0, 1) := by decide +kernel
theorem dX0_draw_2 : decode cX0_draw 2 = .ok (.getfield 9, 3) := by decide +kernel
theorem dX0_draw_5 : decode cX0_draw 5 = .ok (.ldc 126, 2) := by decide +kernel
theorem dX0_draw_7 : decode cX0_draw 7 = .ok (.imul, 1) := by decide +kernel
theorem dX0_draw_8 : decode cX0_draw 8 = .ok (.sipush 12345, 3) := by decide +kernel
theorem dX0_draw_11 : decode cX0_draw 11 = .ok (.iadd, 1) := by decide +kernel
theorem dX0_draw_12 : decode cX0_draw 12 = .ok (.putfield 9, 3) := by decide +kernel
theorem dX0_draw_15 : decode cX0_draw 15 = .ok (.aload_n 0, 1) := by decide +kernel
theorem dX0_draw_16 : decode cX0_draw 16 = .ok (.getfield 9, 3) := by decide +kernel
theorem dX0_draw_19 : decode cX0_draw 19 = .ok (.bipush 8, 2) := by decide +kernel
theorem dX0_draw_21 : decode cX0_draw 21 = .ok (.iushr, 1) := by decide +kernel
theorem dX0_draw_22 : decode cX0_draw 22 = .ok (.ireturn, 1) := by decide +kernel
theorem dX0_drawNight_0 : decode cX0_drawNight 0 = .ok (.aload_n 0, 1) := by decide +kernel
theorem dX0_drawNight_1 : decode cX0_drawNight 1 = .ok (.aload_n 0, 1) := by decide +kernel
theorem dX0_drawNight_2 : decode cX0_drawNight 2 = .ok (.invokevirtual 127, 3) := by decide +kernel
theorem dX0_drawNight_5 : decode cX0_drawNight 5 = .ok (.bipush 10, 2) := by decide +kernel
theorem dX0_drawNight_7 : decode cX0_drawNight 7 = .ok (.irem, 1) := by decide +kernel
theorem dX0_drawNight_8 : decode cX0_drawNight 8 = .ok (.putfield 47, 3) := by decide +kernel
theorem dX0_drawNight_11 : decode cX0_drawNight 11 = .ok (.aload_n 0, 1) := by decide +kernel
theorem dX0_drawNight_12 : decode cX0_drawNight 12 = .ok (.getfield 50, 3) := by decide +kernel
theorem dX0_drawNight_15 : decode cX0_drawNight 15 = .ok (.iconst 1, 1) := by decide +kernel
theorem dX0_drawNight_16 : decode cX0_drawNight 16 = .ok (.if_icmp .ge 4, 3) := by decide +kernel
theorem dX0_drawNight_19 : decode cX0_drawNight 19 = .ok (.return_, 1) := by decide +kernel
theorem dX0_drawNight_20 : decode cX0_drawNight 20 = .ok (.aload_n 0, 1) := by decide +kernel
theorem dX0_drawNight_21 : decode cX0_drawNight 21 = .ok (.invokevirtual 127, 3) := by decide +kernel
theorem dX0_drawNight_24 : decode cX0_drawNight 24 = .ok (.aload_n 0, 1) := by decide +kernel
theorem dX0_drawNight_25 : decode cX0_drawNight 25 = .ok (.getfield 50, 3) := by decide +kernel
theorem dX0_drawNight_28 : decode cX0_drawNight 28 = .ok (.irem, 1) := by decide +kernel
theorem dX0_drawNight_29 : decode cX0_drawNight 29 = .ok (.istore_n 1, 1) := by decide +kernel
theorem dX0_drawNight_30 : decode cX0_drawNight 30 = .ok (.aload_n 0, 1) := by decide +kernel
theorem dX0_drawNight_31 : decode cX0_drawNight 31 = .ok (.invokevirtual 127, 3) := by decide +kernel
theorem dX0_drawNight_34 : decode cX0_drawNight 34 = .ok (.bipush 24, 2) := by decide +kernel
theorem dX0_drawNight_36 : decode cX0_drawNight 36 = .ok (.irem, 1) := by decide +kernel
theorem dX0_drawNight_37 : decode cX0_drawNight 37 = .ok (.istore_n 2, 1) := by decide +kernel
theorem dX0_drawNight_38 : decode cX0_drawNight 38 = .ok (.aload_n 0, 1) := by decide +kernel
theorem dX0_drawNight_39 : decode cX0_drawNight 39 = .ok (.iload_n 1, 1) := by decide +kernel
theorem dX0_drawNight_40 : decode cX0_drawNight 40 = .ok (.invokevirtual 53, 3) := by decide +kernel
theorem dX0_drawNight_43 : decode cX0_drawNight 43 = .ok (.astore_n 3, 1) := by decide +kernel
theorem dX0_drawNight_44 : decode cX0_drawNight 44 = .ok (.aload_n 3, 1) := by decide +kernel
theorem dX0_drawNight_45 : decode cX0_drawNight 45 = .ok (.ifnull 22, 3) := by decide +kernel
theorem dX0_drawNight_48 : decode cX0_drawNight 48 = .ok (.aload_n 3, 1) := by decide +kernel
theorem dX0_drawNight_49 : decode cX0_drawNight 49 = .ok (.getfield 80, 3) := by decide +kernel
theorem dX0_drawNight_52 : decode cX0_drawNight 52 = .ok (.ifCond .ne 15, 3) := by decide +kernel
theorem dX0_drawNight_55 : decode cX0_drawNight 55 = .ok (.aload_n 3, 1) := by decide +kernel
theorem dX0_drawNight_56 : decode cX0_drawNight 56 = .ok (.dup, 1) := by decide +kernel
theorem dX0_drawNight_57 : decode cX0_drawNight 57 = .ok (.getfield 74, 3) := by decide +kernel
theorem dX0_drawNight_60 : decode cX0_drawNight 60 = .ok (.iconst 1, 1) := by decide +kernel
theorem dX0_drawNight_61 : decode cX0_drawNight 61 = .ok (.iload_n 2, 1) := by decide +kernel
theorem dX0_drawNight_62 : decode cX0_drawNight 62 = .ok (.ishl, 1) := by decide +kernel
theorem dX0_drawNight_63 : decode cX0_drawNight 63 = .ok (.ior, 1) := by decide +kernel
theorem dX0_drawNight_64 : decode cX0_drawNight 64 = .ok (.putfield 74, 3) := by decide +kernel
theorem dX0_drawNight_67 : decode cX0_drawNight 67 = .ok (.return_, 1) := by decide +kernel
theorem dX0_clashersWith_0 : decode cX0_clashersWith 0 = .ok (.aload_n 0, 1) := by decide +kernel
theorem dX0_clashersWith_1 : decode cX0_clashersWith 1 = .ok (.iload_n 1, 1) := by decide +kernel
theorem dX0_clashersWith_2 : decode cX0_clashersWith 2 = .ok (.invokevirtual 53, 3) := by decide +kernel
theorem dX0_clashersWith_5 : decode cX0_clashersWith 5 = .ok (.astore_n 2, 1) := by decide +kernel
theorem dX0_clashersWith_6 : decode cX0_clashersWith 6 = .ok (.aload_n 2, 1) := by decide +kernel
theorem dX0_clashersWith_7 : decode cX0_clashersWith 7 = .ok (.ifnonnull 5, 3) := by decide +kernel
theorem dX0_clashersWith_10 : decode cX0_clashersWith 10 = .ok (.iconst 0, 1) := by decide +kernel
theorem dX0_clashersWith_11 : decode cX0_clashersWith 11 = .ok (.ireturn, 1) := by decide +kernel
theorem dX0_clashersWith_12 : decode cX0_clashersWith 12 = .ok (.iconst 0, 1) := by decide +kernel
theorem dX0_clashersWith_13 : decode cX0_clashersWith 13 = .ok (.istore_n 3, 1) := by decide +kernel
theorem dX0_clashersWith_14 : decode cX0_clashersWith 14 = .ok (.iconst 0, 1) := by decide +kernel
theorem dX0_clashersWith_15 : decode cX0_clashersWith 15 = .ok (.istore 4, 2) := by decide +kernel
theorem dX0_clashersWith_17 : decode cX0_clashersWith 17 = .ok (.iload 4, 2) := by decide +kernel
theorem dX0_clashersWith_19 : decode cX0_clashersWith 19 = .ok (.aload_n 0, 1) := by decide +kernel
theorem dX0_clashersWith_20 : decode cX0_clashersWith 20 = .ok (.getfield 50, 3) := by decide +kernel
theorem dX0_clashersWith_23 : decode cX0_clashersWith 23 = .ok (.if_icmp .ge 71, 3) := by decide +kernel
theorem dX0_clashersWith_26 : decode cX0_clashersWith 26 = .ok (.aload_n 0, 1) := by decide +kernel
theorem dX0_clashersWith_27 : decode cX0_clashersWith 27 = .ok (.iload 4, 2) := by decide +kernel
theorem dX0_clashersWith_29 : decode cX0_clashersWith 29 = .ok (.invokevirtual 53, 3) := by decide +kernel
theorem dX0_clashersWith_32 : decode cX0_clashersWith 32 = .ok (.astore 5, 2) := by decide +kernel
theorem dX0_clashersWith_34 : decode cX0_clashersWith 34 = .ok (.aload 5, 2) := by decide +kernel
theorem dX0_clashersWith_36 : decode cX0_clashersWith 36 = .ok (.ifnull 52, 3) := by decide +kernel
theorem dX0_clashersWith_39 : decode cX0_clashersWith 39 = .ok (.iload 4, 2) := by decide +kernel
theorem dX0_clashersWith_41 : decode cX0_clashersWith 41 = .ok (.iload_n 1, 1) := by decide +kernel
theorem dX0_clashersWith_42 : decode cX0_clashersWith 42 = .ok (.if_icmp .eq 46, 3) := by decide +kernel
theorem dX0_clashersWith_45 : decode cX0_clashersWith 45 = .ok (.aload_n 2, 1) := by decide +kernel
theorem dX0_clashersWith_46 : decode cX0_clashersWith 46 = .ok (.getfield 74, 3) := by decide +kernel
theorem dX0_clashersWith_49 : decode cX0_clashersWith 49 = .ok (.aload 5, 2) := by decide +kernel
theorem dX0_clashersWith_51 : decode cX0_clashersWith 51 = .ok (.getfield 74, 3) := by decide +kernel
theorem dX0_clashersWith_54 : decode cX0_clashersWith 54 = .ok (.iand, 1) := by decide +kernel
theorem dX0_clashersWith_55 : decode cX0_clashersWith 55 = .ok (.ifCond .eq 33, 3) := by decide +kernel
theorem dX0_clashersWith_58 : decode cX0_clashersWith 58 = .ok (.aload_n 2, 1) := by decide +kernel
theorem dX0_clashersWith_59 : decode cX0_clashersWith 59 = .ok (.getfield 68, 3) := by decide +kernel
theorem dX0_clashersWith_62 : decode cX0_clashersWith 62 = .ok (.iconst 4, 1) := by decide +kernel
theorem dX0_clashersWith_63 : decode cX0_clashersWith 63 = .ok (.invokestatic 131, 3) := by decide +kernel
theorem dX0_clashersWith_66 : decode cX0_clashersWith 66 = .ok (.ifCond .eq 15, 3) := by decide +kernel
theorem dX0_clashersWith_69 : decode cX0_clashersWith 69 = .ok (.aload 5, 2) := by decide +kernel
theorem dX0_clashersWith_71 : decode cX0_clashersWith 71 = .ok (.getfield 68, 3) := by decide +kernel
theorem dX0_clashersWith_74 : decode cX0_clashersWith 74 = .ok (.iconst 4, 1) := by decide +kernel
theorem dX0_clashersWith_75 : decode cX0_clashersWith 75 = .ok (.invokestatic 131, 3) := by decide +kernel
theorem dX0_clashersWith_78 : decode cX0_clashersWith 78 = .ok (.ifCond .ne 10, 3) := by decide +kernel
theorem dX0_clashersWith_81 : decode cX0_clashersWith 81 = .ok (.iload_n 3, 1) := by decide +kernel
theorem dX0_clashersWith_82 : decode cX0_clashersWith 82 = .ok (.iconst 1, 1) := by decide +kernel
theorem dX0_clashersWith_83 : decode cX0_clashersWith 83 = .ok (.iload 4, 2) := by decide +kernel
theorem dX0_clashersWith_85 : decode cX0_clashersWith 85 = .ok (.ishl, 1) := by decide +kernel
theorem dX0_clashersWith_86 : decode cX0_clashersWith 86 = .ok (.ior, 1) := by decide +kernel
theorem dX0_clashersWith_87 : decode cX0_clashersWith 87 = .ok (.istore_n 3, 1) := by decide +kernel
theorem dX0_clashersWith_88 : decode cX0_clashersWith 88 = .ok (.iinc 4 1, 3) := by decide +kernel
theorem dX0_clashersWith_91 : decode cX0_clashersWith 91 = .ok (.goto (-74), 3) := by decide +kernel
theorem dX0_clashersWith_94 : decode cX0_clashersWith 94 = .ok (.iload_n 3, 1) := by decide +kernel
theorem dX0_clashersWith_95 : decode cX0_clashersWith 95 = .ok (.ireturn, 1) := by decide +kernel
theorem dX0_leastToGiveUp_0 : decode cX0_leastToGiveUp 0 = .ok (.iconst 1, 1) := by decide +kernel
theorem dX0_leastToGiveUp_1 : decode cX0_leastToGiveUp 1 = .ok (.aload_n 0, 1) := by decide +kernel
theorem dX0_leastToGiveUp_2 : decode cX0_leastToGiveUp 2 = .ok (.getfield 50, 3) := by decide +kernel
theorem dX0_leastToGiveUp_5 : decode cX0_leastToGiveUp 5 = .ok (.ishl, 1) := by decide +kernel
theorem dX0_leastToGiveUp_6 : decode cX0_leastToGiveUp 6 = .ok (.iconst 1, 1) := by decide +kernel
theorem dX0_leastToGiveUp_7 : decode cX0_leastToGiveUp 7 = .ok (.isub, 1) := by decide +kernel
theorem dX0_leastToGiveUp_8 : decode cX0_leastToGiveUp 8 = .ok (.istore_n 1, 1) := by decide +kernel
theorem dX0_leastToGiveUp_9 : decode cX0_leastToGiveUp 9 = .ok (.iconst 0, 1) := by decide +kernel
theorem dX0_leastToGiveUp_10 : decode cX0_leastToGiveUp 10 = .ok (.istore_n 2, 1) := by decide +kernel
theorem dX0_leastToGiveUp_11 : decode cX0_leastToGiveUp 11 = .ok (.iload_n 2, 1) := by decide +kernel
theorem dX0_leastToGiveUp_12 : decode cX0_leastToGiveUp 12 = .ok (.iconst 1, 1) := by decide +kernel
theorem dX0_leastToGiveUp_13 : decode cX0_leastToGiveUp 13 = .ok (.aload_n 0, 1) := by decide +kernel
theorem dX0_leastToGiveUp_14 : decode cX0_leastToGiveUp 14 = .ok (.getfield 50, 3) := by decide +kernel
theorem dX0_leastToGiveUp_17 : decode cX0_leastToGiveUp 17 = .ok (.ishl, 1) := by decide +kernel
theorem dX0_leastToGiveUp_18 : decode cX0_leastToGiveUp 18 = .ok (.if_icmp .ge 30, 3) := by decide +kernel
theorem dX0_leastToGiveUp_21 : decode cX0_leastToGiveUp 21 = .ok (.iload_n 2, 1) := by decide +kernel
theorem dX0_leastToGiveUp_22 : decode cX0_leastToGiveUp 22 = .ok (.invokestatic 95, 3) := by decide +kernel
theorem dX0_leastToGiveUp_25 : decode cX0_leastToGiveUp 25 = .ok (.iload_n 1, 1) := by decide +kernel
theorem dX0_leastToGiveUp_26 : decode cX0_leastToGiveUp 26 = .ok (.invokestatic 95, 3) := by decide +kernel
theorem dX0_leastToGiveUp_29 : decode cX0_leastToGiveUp 29 = .ok (.if_icmp .ge 13, 3) := by decide +kernel
theorem dX0_leastToGiveUp_32 : decode cX0_leastToGiveUp 32 = .ok (.aload_n 0, 1) := by decide +kernel
theorem dX0_leastToGiveUp_33 : decode cX0_leastToGiveUp 33 = .ok (.iload_n 2, 1) := by decide +kernel
theorem dX0_leastToGiveUp_34 : decode cX0_leastToGiveUp 34 = .ok (.invokevirtual 135, 3) := by decide +kernel
theorem dX0_leastToGiveUp_37 : decode cX0_leastToGiveUp 37 = .ok (.ifCond .eq 5, 3) := by decide +kernel
theorem dX0_leastToGiveUp_40 : decode cX0_leastToGiveUp 40 = .ok (.iload_n 2, 1) := by decide +kernel
theorem dX0_leastToGiveUp_41 : decode cX0_leastToGiveUp 41 = .ok (.istore_n 1, 1) := by decide +kernel
theorem dX0_leastToGiveUp_42 : decode cX0_leastToGiveUp 42 = .ok (.iinc 2 1, 3) := by decide +kernel
theorem dX0_leastToGiveUp_45 : decode cX0_leastToGiveUp 45 = .ok (.goto (-34), 3) := by decide +kernel
theorem dX0_leastToGiveUp_48 : decode cX0_leastToGiveUp 48 = .ok (.iload_n 1, 1) := by decide +kernel
theorem dX0_leastToGiveUp_49 : decode cX0_leastToGiveUp 49 = .ok (.ireturn, 1) := by decide +kernel
theorem dX0_isPeaceWithout_0 : decode cX0_isPeaceWithout 0 = .ok (.iconst 0, 1) := by decide +kernel
theorem dX0_isPeaceWithout_1 : decode cX0_isPeaceWithout 1 = .ok (.istore_n 2, 1) := by decide +kernel
theorem dX0_isPeaceWithout_2 : decode cX0_isPeaceWithout 2 = .ok (.iload_n 2, 1) := by decide +kernel
theorem dX0_isPeaceWithout_3 : decode cX0_isPeaceWithout 3 = .ok (.aload_n 0, 1) := by decide +kernel
theorem dX0_isPeaceWithout_4 : decode cX0_isPeaceWithout 4 = .ok (.getfield 50, 3) := by decide +kernel
theorem dX0_isPeaceWithout_7 : decode cX0_isPeaceWithout 7 = .ok (.if_icmp .ge 31, 3) := by decide +kernel
theorem dX0_isPeaceWithout_10 : decode cX0_isPeaceWithout 10 = .ok (.iload_n 1, 1) := by decide +kernel
theorem dX0_isPeaceWithout_11 : decode cX0_isPeaceWithout 11 = .ok (.iload_n 2, 1) := by decide +kernel
theorem dX0_isPeaceWithout_12 : decode cX0_isPeaceWithout 12 = .ok (.ishr, 1) := by decide +kernel
theorem dX0_isPeaceWithout_13 : decode cX0_isPeaceWithout 13 = .ok (.iconst 1, 1) := by decide +kernel
theorem dX0_isPeaceWithout_14 : decode cX0_isPeaceWithout 14 = .ok (.iand, 1) := by decide +kernel
theorem dX0_isPeaceWithout_15 : decode cX0_isPeaceWithout 15 = .ok (.ifCond .ne 17, 3) := by decide +kernel
theorem dX0_isPeaceWithout_18 : decode cX0_isPeaceWithout 18 = .ok (.aload_n 0, 1) := by decide +kernel
theorem dX0_isPeaceWithout_19 : decode cX0_isPeaceWithout 19 = .ok (.iload_n 2, 1) := by decide +kernel
theorem dX0_isPeaceWithout_20 : decode cX0_isPeaceWithout 20 = .ok (.invokevirtual 139, 3) := by decide +kernel
theorem dX0_isPeaceWithout_23 : decode cX0_isPeaceWithout 23 = .ok (.iload_n 1, 1) := by decide +kernel
theorem dX0_isPeaceWithout_24 : decode cX0_isPeaceWithout 24 = .ok (.iconst (-1), 1) := by decide +kernel
theorem dX0_isPeaceWithout_25 : decode cX0_isPeaceWithout 25 = .ok (.ixor, 1) := by decide +kernel
theorem dX0_isPeaceWithout_26 : decode cX0_isPeaceWithout 26 = .ok (.iand, 1) := by decide +kernel
theorem dX0_isPeaceWithout_27 : decode cX0_isPeaceWithout 27 = .ok (.ifCond .eq 5, 3) := by decide +kernel
theorem dX0_isPeaceWithout_30 : decode cX0_isPeaceWithout 30 = .ok (.iconst 0, 1) := by decide +kernel
theorem dX0_isPeaceWithout_31 : decode cX0_isPeaceWithout 31 = .ok (.ireturn, 1) := by decide +kernel
theorem dX0_isPeaceWithout_32 : decode cX0_isPeaceWithout 32 = .ok (.iinc 2 1, 3) := by decide +kernel
theorem dX0_isPeaceWithout_35 : decode cX0_isPeaceWithout 35 = .ok (.goto (-33), 3) := by decide +kernel
theorem dX0_isPeaceWithout_38 : decode cX0_isPeaceWithout 38 = .ok (.iconst 1, 1) := by decide +kernel
theorem dX0_isPeaceWithout_39 : decode cX0_isPeaceWithout 39 = .ok (.ireturn, 1) := by decide +kernel
theorem dX1_init_0 : decode cX1_init 0 = .ok (.aload_n 0, 1) := by decide +kernel
theorem dX1_init_1 : decode cX1_init 1 = .ok (.invokespecial 3, 3) := by decide +kernel
theorem dX1_init_4 : decode cX1_init 4 = .ok (.aload_n 0, 1) := by decide +kernel
theorem dX1_init_5 : decode cX1_init 5 = .ok (.new 9, 3) := by decide +kernel
theorem dX1_init_8 : decode cX1_init 8 = .ok (.dup, 1) := by decide +kernel
theorem dX1_init_9 : decode cX1_init 9 = .ok (.bipush 50, 2) := by decide +kernel
theorem dX1_init_11 : decode cX1_init 11 = .ok (.invokespecial 11, 3) := by decide +kernel
theorem dX1_init_14 : decode cX1_init 14 = .ok (.putfield 14, 3) := by decide +kernel
theorem dX1_init_17 : decode cX1_init 17 = .ok (.aload_n 0, 1) := by decide +kernel
theorem dX1_init_18 : decode cX1_init 18 = .ok (.bipush 50, 2) := by decide +kernel
theorem dX1_init_20 : decode cX1_init 20 = .ok (.newarray .int, 2) := by decide +kernel
theorem dX1_init_22 : decode cX1_init 22 = .ok (.putfield 20, 3) := by decide +kernel
theorem dX1_init_25 : decode cX1_init 25 = .ok (.aload_n 0, 1) := by decide +kernel
theorem dX1_init_26 : decode cX1_init 26 = .ok (.iload_n 1, 1) := by decide +kernel
theorem dX1_init_27 : decode cX1_init 27 = .ok (.putfield 24, 3) := by decide +kernel
theorem dX1_init_30 : decode cX1_init 30 = .ok (.return_, 1) := by decide +kernel
theorem dX1_copyFrom_0 : decode cX1_copyFrom 0 = .ok (.aload_n 0, 1) := by decide +kernel
theorem dX1_copyFrom_1 : decode cX1_copyFrom 1 = .ok (.getfield 14, 3) := by decide +kernel
theorem dX1_copyFrom_4 : decode cX1_copyFrom 4 = .ok (.aload_n 1, 1) := by decide +kernel
theorem dX1_copyFrom_5 : decode cX1_copyFrom 5 = .ok (.invokevirtual 28, 3) := by decide +kernel
theorem dX1_copyFrom_8 : decode cX1_copyFrom 8 = .ok (.return_, 1) := by decide +kernel
theorem dX1_rule_0 : decode cX1_rule 0 = .ok (.aload_n 0, 1) := by decide +kernel
theorem dX1_rule_1 : decode cX1_rule 1 = .ok (.getfield 24, 3) := by decide +kernel
theorem dX1_rule_4 : decode cX1_rule 4 = .ok (.ifCond .ne 25, 3) := by decide +kernel
theorem dX1_rule_7 : decode cX1_rule 7 = .ok (.aload_n 0, 1) := by decide +kernel
theorem dX1_rule_8 : decode cX1_rule 8 = .ok (.getfield 14, 3) := by decide +kernel
theorem dX1_rule_11 : decode cX1_rule 11 = .ok (.getfield 32, 3) := by decide +kernel
theorem dX1_rule_14 : decode cX1_rule 14 = .ok (.ifCond .ne 7, 3) := by decide +kernel
theorem dX1_rule_17 : decode cX1_rule 17 = .ok (.iconst 0, 1) := by decide +kernel
theorem dX1_rule_18 : decode cX1_rule 18 = .ok (.goto 10, 3) := by decide +kernel
theorem dX1_rule_21 : decode cX1_rule 21 = .ok (.aload_n 0, 1) := by decide +kernel
theorem dX1_rule_22 : decode cX1_rule 22 = .ok (.iload_n 1, 1) := by decide +kernel
theorem dX1_rule_23 : decode cX1_rule 23 = .ok (.iload_n 2, 1) := by decide +kernel
theorem dX1_rule_24 : decode cX1_rule 24 = .ok (.iload_n 3, 1) := by decide +kernel
theorem dX1_rule_25 : decode cX1_rule 25 = .ok (.invokevirtual 35, 3) := by decide +kernel
theorem dX1_rule_28 : decode cX1_rule 28 = .ok (.ireturn, 1) := by decide +kernel
theorem dX1_rule_29 : decode cX1_rule 29 = .ok (.aload_n 0, 1) := by decide +kernel
theorem dX1_rule_30 : decode cX1_rule 30 = .ok (.getfield 14, 3) := by decide +kernel
theorem dX1_rule_33 : decode cX1_rule 33 = .ok (.getfield 32, 3) := by decide +kernel
theorem dX1_rule_36 : decode cX1_rule 36 = .ok (.ifCond .ne 11, 3) := by decide +kernel
theorem dX1_rule_39 : decode cX1_rule 39 = .ok (.iconst 1, 1) := by decide +kernel
theorem dX1_rule_40 : decode cX1_rule 40 = .ok (.iload_n 2, 1) := by decide +kernel
theorem dX1_rule_41 : decode cX1_rule 41 = .ok (.iconst 4, 1) := by decide +kernel
theorem dX1_rule_42 : decode cX1_rule 42 = .ok (.idiv, 1) := by decide +kernel
theorem dX1_rule_43 : decode cX1_rule 43 = .ok (.iadd, 1) := by decide +kernel
theorem dX1_rule_44 : decode cX1_rule 44 = .ok (.goto 10, 3) := by decide +kernel
theorem dX1_rule_47 : decode cX1_rule 47 = .ok (.aload_n 0, 1) := by decide +kernel
theorem dX1_rule_48 : decode cX1_rule 48 = .ok (.iload_n 1, 1) := by decide +kernel
theorem dX1_rule_49 : decode cX1_rule 49 = .ok (.iload_n 2, 1) := by decide +kernel
theorem dX1_rule_50 : decode cX1_rule 50 = .ok (.iload_n 3, 1) := by decide +kernel
theorem dX1_rule_51 : decode cX1_rule 51 = .ok (.invokevirtual 35, 3) := by decide +kernel
theorem dX1_rule_54 : decode cX1_rule 54 = .ok (.istore 4, 2) := by decide +kernel
theorem dX1_rule_56 : decode cX1_rule 56 = .ok (.iconst 0, 1) := by decide +kernel
theorem dX1_rule_57 : decode cX1_rule 57 = .ok (.bipush 99, 2) := by decide +kernel
theorem dX1_rule_59 : decode cX1_rule 59 = .ok (.iload 4, 2) := by decide +kernel
theorem dX1_rule_61 : decode cX1_rule 61 = .ok (.invokestatic 39, 3) := by decide +kernel
theorem dX1_rule_64 : decode cX1_rule 64 = .ok (.invokestatic 45, 3) := by decide +kernel
theorem dX1_rule_67 : decode cX1_rule 67 = .ok (.ireturn, 1) := by decide +kernel
theorem dX1_workOut_0 : decode cX1_workOut 0 = .ok (.iconst 0, 1) := by decide +kernel
theorem dX1_workOut_1 : decode cX1_workOut 1 = .ok (.istore 4, 2) := by decide +kernel
theorem dX1_workOut_3 : decode cX1_workOut 3 = .ok (.iconst 0, 1) := by decide +kernel
theorem dX1_workOut_4 : decode cX1_workOut 4 = .ok (.istore 5, 2) := by decide +kernel
theorem dX1_workOut_6 : decode cX1_workOut 6 = .ok (.iload 5, 2) := by decide +kernel
theorem dX1_workOut_8 : decode cX1_workOut 8 = .ok (.aload_n 0, 1) := by decide +kernel
theorem dX1_workOut_9 : decode cX1_workOut 9 = .ok (.getfield 14, 3) := by decide +kernel
theorem dX1_workOut_12 : decode cX1_workOut 12 = .ok (.getfield 32, 3) := by decide +kernel
theorem dX1_workOut_15 : decode cX1_workOut 15 = .ok (.if_icmp .ge 149, 3) := by decide +kernel
theorem dX1_workOut_18 : decode cX1_workOut 18 = .ok (.aload_n 0, 1) := by decide +kernel
theorem dX1_workOut_19 : decode cX1_workOut 19 = .ok (.getfield 14, 3) := by decide +kernel
theorem dX1_workOut_22 : decode cX1_workOut 22 = .ok (.iload 5, 2) := by decide +kernel
theorem dX1_workOut_24 : decode cX1_workOut 24 = .ok (.invokevirtual 48, 3) := by decide +kernel
theorem dX1_workOut_27 : decode cX1_workOut 27 = .ok (.istore 6, 2) := by decide +kernel
theorem dX1_workOut_29 : decode cX1_workOut 29 = .ok (.iload 6, 2) := by decide +kernel
theorem dX1_workOut_31 : decode cX1_workOut 31 = .ok (.bipush (-3), 2) := by decide +kernel
theorem dX1_workOut_33 : decode cX1_workOut 33 = .ok (.if_icmp .lt 36, 3) := by decide +kernel
theorem dX1_workOut_36 : decode cX1_workOut 36 = .ok (.iload 4, 2) := by decide +kernel
theorem dX1_workOut_38 : decode cX1_workOut 38 = .ok (.aload_n 0, 1) := by decide +kernel
theorem dX1_workOut_39 : decode cX1_workOut 39 = .ok (.getfield 20, 3) := by decide +kernel
theorem dX1_workOut_42 : decode cX1_workOut 42 = .ok (.arraylength, 1) := by decide +kernel
theorem dX1_workOut_43 : decode cX1_workOut 43 = .ok (.if_icmp .lt 5, 3) := by decide +kernel
theorem dX1_workOut_46 : decode cX1_workOut 46 = .ok (.iconst 0, 1) := by decide +kernel
theorem dX1_workOut_47 : decode cX1_workOut 47 = .ok (.ireturn, 1) := by decide +kernel
theorem dX1_workOut_48 : decode cX1_workOut 48 = .ok (.aload_n 0, 1) := by decide +kernel
theorem dX1_workOut_49 : decode cX1_workOut 49 = .ok (.getfield 20, 3) := by decide +kernel
theorem dX1_workOut_52 : decode cX1_workOut 52 = .ok (.iload 4, 2) := by decide +kernel
theorem dX1_workOut_54 : decode cX1_workOut 54 = .ok (.iload 6, 2) := by decide +kernel
theorem dX1_workOut_56 : decode cX1_workOut 56 = .ok (.iload_n 1, 1) := by decide +kernel
theorem dX1_workOut_57 : decode cX1_workOut 57 = .ok (.iload_n 2, 1) := by decide +kernel
theorem dX1_workOut_58 : decode cX1_workOut 58 = .ok (.iload_n 3, 1) := by decide +kernel
theorem dX1_workOut_59 : decode cX1_workOut 59 = .ok (.invokestatic 52, 3) := by decide +kernel
theorem dX1_workOut_62 : decode cX1_workOut 62 = .ok (.iastore, 1) := by decide +kernel
theorem dX1_workOut_63 : decode cX1_workOut 63 = .ok (.iinc 4 1, 3) := by decide +kernel
theorem dX1_workOut_66 : decode cX1_workOut 66 = .ok (.goto 92, 3) := by decide +kernel
theorem dX1_workOut_69 : decode cX1_workOut 69 = .ok (.iload 6, 2) := by decide +kernel
theorem dX1_workOut_71 : decode cX1_workOut 71 = .ok (.bipush (-33), 2) := by decide +kernel
theorem dX1_workOut_73 : decode cX1_workOut 73 = .ok (.if_icmp .ne 43, 3) := by decide +kernel
theorem dX1_workOut_76 : decode cX1_workOut 76 = .ok (.iload 4, 2) := by decide +kernel
theorem dX1_workOut_78 : decode cX1_workOut 78 = .ok (.iconst 1, 1) := by decide +kernel
theorem dX1_workOut_79 : decode cX1_workOut 79 = .ok (.if_icmp .ge 5, 3) := by decide +kernel
theorem dX1_workOut_82 : decode cX1_workOut 82 = .ok (.iconst 0, 1) := by decide +kernel
theorem dX1_workOut_83 : decode cX1_workOut 83 = .ok (.ireturn, 1) := by decide +kernel
theorem dX1_workOut_84 : decode cX1_workOut 84 = .ok (.aload_n 0, 1) := by decide +kernel
theorem dX1_workOut_85 : decode cX1_workOut 85 = .ok (.getfield 20, 3) := by decide +kernel
theorem dX1_workOut_88 : decode cX1_workOut 88 = .ok (.iload 4, 2) := by decide +kernel
theorem dX1_workOut_90 : decode cX1_workOut 90 = .ok (.iconst 1, 1) := by decide +kernel
theorem dX1_workOut_91 : decode cX1_workOut 91 = .ok (.isub, 1) := by decide +kernel
theorem dX1_workOut_92 : decode cX1_workOut 92 = .ok (.aload_n 0, 1) := by decide +kernel
theorem dX1_workOut_93 : decode cX1_workOut 93 = .ok (.getfield 20, 3) := by decide +kernel
theorem dX1_workOut_96 : decode cX1_workOut 96 = .ok (.iload 4, 2) := by decide +kernel
theorem dX1_workOut_98 : decode cX1_workOut 98 = .ok (.iconst 1, 1) := by decide +kernel
theorem dX1_workOut_99 : decode cX1_workOut 99 = .ok (.isub, 1) := by decide +kernel
theorem dX1_workOut_100 : decode cX1_workOut 100 = .ok (.iaload, 1) := by decide +kernel
theorem dX1_workOut_101 : decode cX1_workOut 101 = .ok (.ifCond .ne 7, 3) := by decide +kernel
theorem dX1_workOut_104 : decode cX1_workOut 104 = .ok (.iconst 1, 1) := by decide +kernel
theorem dX1_workOut_105 : decode cX1_workOut 105 = .ok (.goto 4, 3) := by decide +kernel
theorem dX1_workOut_108 : decode cX1_workOut 108 = .ok (.iconst 0, 1) := by decide +kernel
theorem dX1_workOut_109 : decode cX1_workOut 109 = .ok (.invokestatic 56, 3) := by decide +kernel
theorem dX1_workOut_112 : decode cX1_workOut 112 = .ok (.iastore, 1) := by decide +kernel
theorem dX1_workOut_113 : decode cX1_workOut 113 = .ok (.goto 45, 3) := by decide +kernel
theorem dX1_workOut_116 : decode cX1_workOut 116 = .ok (.iload 4, 2) := by decide +kernel
theorem dX1_workOut_118 : decode cX1_workOut 118 = .ok (.iconst 2, 1) := by decide +kernel
theorem dX1_workOut_119 : decode cX1_workOut 119 = .ok (.if_icmp .ge 5, 3) := by decide +kernel
theorem dX1_workOut_122 : decode cX1_workOut 122 = .ok (.iconst 0, 1) := by decide +kernel
theorem dX1_workOut_123 : decode cX1_workOut 123 = .ok (.ireturn, 1) := by decide +kernel
theorem dX1_workOut_124 : decode cX1_workOut 124 = .ok (.iinc 4 (-1), 3) := by decide +kernel
theorem dX1_workOut_127 : decode cX1_workOut 127 = .ok (.aload_n 0, 1) := by decide +kernel
theorem dX1_workOut_128 : decode cX1_workOut 128 = .ok (.getfield 20, 3) := by decide +kernel
theorem dX1_workOut_131 : decode cX1_workOut 131 = .ok (.iload 4, 2) := by decide +kernel
theorem dX1_workOut_133 : decode cX1_workOut 133 = .ok (.iconst 1, 1) := by decide +kernel
theorem dX1_workOut_134 : decode cX1_workOut 134 = .ok (.isub, 1) := by decide +kernel
theorem dX1_workOut_135 : decode cX1_workOut 135 = .ok (.iload 6, 2) := by decide +kernel
theorem dX1_workOut_137 : decode cX1_workOut 137 = .ok (.ineg, 1) := by decide +kernel
theorem dX1_workOut_138 : decode cX1_workOut 138 = .ok (.aload_n 0, 1) := by decide +kernel
theorem dX1_workOut_139 : decode cX1_workOut 139 = .ok (.getfield 20, 3) := by decide +kernel
theorem dX1_workOut_142 : decode cX1_workOut 142 = .ok (.iload 4, 2) := by decide +kernel
theorem dX1_workOut_144 : decode cX1_workOut 144 = .ok (.iconst 1, 1) := by decide +kernel
theorem dX1_workOut_145 : decode cX1_workOut 145 = .ok (.isub, 1) := by decide +kernel
theorem dX1_workOut_146 : decode cX1_workOut 146 = .ok (.iaload, 1) := by decide +kernel
theorem dX1_workOut_147 : decode cX1_workOut 147 = .ok (.aload_n 0, 1) := by decide +kernel
theorem dX1_workOut_148 : decode cX1_workOut 148 = .ok (.getfield 20, 3) := by decide +kernel
theorem dX1_workOut_151 : decode cX1_workOut 151 = .ok (.iload 4, 2) := by decide +kernel
theorem dX1_workOut_153 : decode cX1_workOut 153 = .ok (.iaload, 1) := by decide +kernel
theorem dX1_workOut_154 : decode cX1_workOut 154 = .ok (.invokestatic 60, 3) := by decide +kernel
theorem dX1_workOut_157 : decode cX1_workOut 157 = .ok (.iastore, 1) := by decide +kernel
theorem dX1_workOut_158 : decode cX1_workOut 158 = .ok (.iinc 5 1, 3) := by decide +kernel
theorem dX1_workOut_161 : decode cX1_workOut 161 = .ok (.goto (-155), 3) := by decide +kernel
theorem dX1_workOut_164 : decode cX1_workOut 164 = .ok (.iload 4, 2) := by decide +kernel
theorem dX1_workOut_166 : decode cX1_workOut 166 = .ok (.iconst 1, 1) := by decide +kernel
theorem dX1_workOut_167 : decode cX1_workOut 167 = .ok (.if_icmp .ge 7, 3) := by decide +kernel
theorem dX1_workOut_170 : decode cX1_workOut 170 = .ok (.iconst 0, 1) := by decide +kernel
theorem dX1_workOut_171 : decode cX1_workOut 171 = .ok (.goto 12, 3) := by decide +kernel
theorem dX1_workOut_174 : decode cX1_workOut 174 = .ok (.aload_n 0, 1) := by decide +kernel
theorem dX1_workOut_175 : decode cX1_workOut 175 = .ok (.getfield 20, 3) := by decide +kernel
theorem dX1_workOut_178 : decode cX1_workOut 178 = .ok (.iload 4, 2) := by decide +kernel
theorem dX1_workOut_180 : decode cX1_workOut 180 = .ok (.iconst 1, 1) := by decide +kernel
theorem dX1_workOut_181 : decode cX1_workOut 181 = .ok (.isub, 1) := by decide +kernel
theorem dX1_workOut_182 : decode cX1_workOut 182 = .ok (.iaload, 1) := by decide +kernel
theorem dX1_workOut_183 : decode cX1_workOut 183 = .ok (.ireturn, 1) := by decide +kernel
theorem dX1_valueOf_0 : decode cX1_valueOf 0 = .ok (.iload_n 0, 1) := by decide +kernel
theorem dX1_valueOf_1 : decode cX1_valueOf 1 = .ok (.ifCond .lt 5, 3) := by decide +kernel
theorem dX1_valueOf_4 : decode cX1_valueOf 4 = .ok (.iload_n 0, 1) := by decide +kernel
theorem dX1_valueOf_5 : decode cX1_valueOf 5 = .ok (.ireturn, 1) := by decide +kernel
theorem dX1_valueOf_6 : decode cX1_valueOf 6 = .ok (.iload_n 0, 1) := by decide +kernel
theorem dX1_valueOf_7 : decode cX1_valueOf 7 = .ok (.iconst (-1), 1) := by decide +kernel
theorem dX1_valueOf_8 : decode cX1_valueOf 8 = .ok (.if_icmp .ne 5, 3) := by decide +kernel
theorem dX1_valueOf_11 : decode cX1_valueOf 11 = .ok (.iload_n 1, 1) := by decide +kernel
theorem dX1_valueOf_12 : decode cX1_valueOf 12 = .ok (.ireturn, 1) := by decide +kernel
theorem dX1_valueOf_13 : decode cX1_valueOf 13 = .ok (.iload_n 0, 1) := by decide +kernel
theorem dX1_valueOf_14 : decode cX1_valueOf 14 = .ok (.bipush (-3), 2) := by decide +kernel
theorem dX1_valueOf_16 : decode cX1_valueOf 16 = .ok (.if_icmp .ne 7, 3) := by decide +kernel
theorem dX1_valueOf_19 : decode cX1_valueOf 19 = .ok (.iload_n 3, 1) := by decide +kernel
theorem dX1_valueOf_20 : decode cX1_valueOf 20 = .ok (.goto 4, 3) := by decide +kernel
theorem dX1_valueOf_23 : decode cX1_valueOf 23 = .ok (.iload_n 2, 1) := by decide +kernel
theorem dX1_valueOf_24 : decode cX1_valueOf 24 = .ok (.ireturn, 1) := by decide +kernel
theorem dX1_join_0 : decode cX1_join 0 = .ok (.iload_n 0, 1) := by decide +kernel
theorem dX1_join_1 : decode cX1_join 1 = .ok (.lookupswitch 188 #[(37, 176), (38, 105), (42, 160), (43, 152), (45, 156), (47, 164), (60, 119), (61, 130), (62, 141), (124, 91)], 91) := by decide +kernel
theorem dX1_join_92 : decode cX1_join 92 = .ok (.iload_n 1, 1) := by decide +kernel
theorem dX1_join_93 : decode cX1_join 93 = .ok (.ifCond .ne 7, 3) := by decide +kernel
theorem dX1_join_96 : decode cX1_join 96 = .ok (.iload_n 2, 1) := by decide +kernel
theorem dX1_join_97 : decode cX1_join 97 = .ok (.ifCond .eq 7, 3) := by decide +kernel
theorem dX1_join_100 : decode cX1_join 100 = .ok (.iconst 1, 1) := by decide +kernel
theorem dX1_join_101 : decode cX1_join 101 = .ok (.goto 4, 3) := by decide +kernel
theorem dX1_join_104 : decode cX1_join 104 = .ok (.iconst 0, 1) := by decide +kernel
theorem dX1_join_105 : decode cX1_join 105 = .ok (.ireturn, 1) := by decide +kernel
theorem dX1_join_106 : decode cX1_join 106 = .ok (.iload_n 1, 1) := by decide +kernel
theorem dX1_join_107 : decode cX1_join 107 = .ok (.ifCond .eq 11, 3) := by decide +kernel
theorem dX1_join_110 : decode cX1_join 110 = .ok (.iload_n 2, 1) := by decide +kernel
theorem dX1_join_111 : decode cX1_join 111 = .ok (.ifCond .eq 7, 3) := by decide +kernel
theorem dX1_join_114 : decode cX1_join 114 = .ok (.iconst 1, 1) := by decide +kernel
theorem dX1_join_115 : decode cX1_join 115 = .ok (.goto 4, 3) := by decide +kernel
theorem dX1_join_118 : decode cX1_join 118 = .ok (.iconst 0, 1) := by decide +kernel
theorem dX1_join_119 : decode cX1_join 119 = .ok (.ireturn, 1) := by decide +kernel
theorem dX1_join_120 : decode cX1_join 120 = .ok (.iload_n 1, 1) := by decide +kernel
theorem dX1_join_121 : decode cX1_join 121 = .ok (.iload_n 2, 1) := by decide +kernel
theorem dX1_join_122 : decode cX1_join 122 = .ok (.if_icmp .ge 7, 3) := by decide +kernel
theorem dX1_join_125 : decode cX1_join 125 = .ok (.iconst 1, 1) := by decide +kernel
theorem dX1_join_126 : decode cX1_join 126 = .ok (.goto 4, 3) := by decide +kernel
theorem dX1_join_129 : decode cX1_join 129 = .ok (.iconst 0, 1) := by decide +kernel
theorem dX1_join_130 : decode cX1_join 130 = .ok (.ireturn, 1) := by decide +kernel
theorem dX1_join_131 : decode cX1_join 131 = .ok (.iload_n 1, 1) := by decide +kernel
theorem dX1_join_132 : decode cX1_join 132 = .ok (.iload_n 2, 1) := by decide +kernel
theorem dX1_join_133 : decode cX1_join 133 = .ok (.if_icmp .ne 7, 3) := by decide +kernel
theorem dX1_join_136 : decode cX1_join 136 = .ok (.iconst 1, 1) := by decide +kernel
theorem dX1_join_137 : decode cX1_join 137 = .ok (.goto 4, 3) := by decide +kernel
theorem dX1_join_140 : decode cX1_join 140 = .ok (.iconst 0, 1) := by decide +kernel
theorem dX1_join_141 : decode cX1_join 141 = .ok (.ireturn, 1) := by decide +kernel
theorem dX1_join_142 : decode cX1_join 142 = .ok (.iload_n 1, 1) := by decide +kernel
theorem dX1_join_143 : decode cX1_join 143 = .ok (.iload_n 2, 1) := by decide +kernel
theorem dX1_join_144 : decode cX1_join 144 = .ok (.if_icmp .le 7, 3) := by decide +kernel
theorem dX1_join_147 : decode cX1_join 147 = .ok (.iconst 1, 1) := by decide +kernel
theorem dX1_join_148 : decode cX1_join 148 = .ok (.goto 4, 3) := by decide +kernel
theorem dX1_join_151 : decode cX1_join 151 = .ok (.iconst 0, 1) := by decide +kernel
theorem dX1_join_152 : decode cX1_join 152 = .ok (.ireturn, 1) := by decide +kernel
theorem dX1_join_153 : decode cX1_join 153 = .ok (.iload_n 1, 1) := by decide +kernel
theorem dX1_join_154 : decode cX1_join 154 = .ok (.iload_n 2, 1) := by decide +kernel
theorem dX1_join_155 : decode cX1_join 155 = .ok (.iadd, 1) := by decide +kernel
theorem dX1_join_156 : decode cX1_join 156 = .ok (.ireturn, 1) := by decide +kernel
theorem dX1_join_157 : decode cX1_join 157 = .ok (.iload_n 1, 1) := by decide +kernel
theorem dX1_join_158 : decode cX1_join 158 = .ok (.iload_n 2, 1) := by decide +kernel
theorem dX1_join_159 : decode cX1_join 159 = .ok (.isub, 1) := by decide +kernel
theorem dX1_join_160 : decode cX1_join 160 = .ok (.ireturn, 1) := by decide +kernel
theorem dX1_join_161 : decode cX1_join 161 = .ok (.iload_n 1, 1) := by decide +kernel
theorem dX1_join_162 : decode cX1_join 162 = .ok (.iload_n 2, 1) := by decide +kernel
theorem dX1_join_163 : decode cX1_join 163 = .ok (.imul, 1) := by decide +kernel
theorem dX1_join_164 : decode cX1_join 164 = .ok (.ireturn, 1) := by decide +kernel
theorem dX1_join_165 : decode cX1_join 165 = .ok (.iload_n 2, 1) := by decide +kernel
theorem dX1_join_166 : decode cX1_join 166 = .ok (.ifCond .ne 7, 3) := by decide +kernel
theorem dX1_join_169 : decode cX1_join 169 = .ok (.iconst 0, 1) := by decide +kernel
theorem dX1_join_170 : decode cX1_join 170 = .ok (.goto 6, 3) := by decide +kernel
theorem dX1_join_173 : decode cX1_join 173 = .ok (.iload_n 1, 1) := by decide +kernel
theorem dX1_join_174 : decode cX1_join 174 = .ok (.iload_n 2, 1) := by decide +kernel
theorem dX1_join_175 : decode cX1_join 175 = .ok (.idiv, 1) := by decide +kernel
theorem dX1_join_176 : decode cX1_join 176 = .ok (.ireturn, 1) := by decide +kernel
theorem dX1_join_177 : decode cX1_join 177 = .ok (.iload_n 2, 1) := by decide +kernel
theorem dX1_join_178 : decode cX1_join 178 = .ok (.ifCond .ne 7, 3) := by decide +kernel
theorem dX1_join_181 : decode cX1_join 181 = .ok (.iconst 0, 1) := by decide +kernel
theorem dX1_join_182 : decode cX1_join 182 = .ok (.goto 6, 3) := by decide +kernel
theorem dX1_join_185 : decode cX1_join 185 = .ok (.iload_n 1, 1) := by decide +kernel
theorem dX1_join_186 : decode cX1_join 186 = .ok (.iload_n 2, 1) := by decide +kernel
theorem dX1_join_187 : decode cX1_join 187 = .ok (.irem, 1) := by decide +kernel
theorem dX1_join_188 : decode cX1_join 188 = .ok (.ireturn, 1) := by decide +kernel
theorem dX1_join_189 : decode cX1_join 189 = .ok (.iconst 0, 1) := by decide +kernel
theorem dX1_join_190 : decode cX1_join 190 = .ok (.ireturn, 1) := by decide +kernel
theorem dX1_asInt_0 : decode cX1_asInt 0 = .ok (.iload_n 0, 1) := by decide +kernel
theorem dX1_asInt_1 : decode cX1_asInt 1 = .ok (.ifCond .eq 7, 3) := by decide +kernel
theorem dX1_asInt_4 : decode cX1_asInt 4 = .ok (.iconst 1, 1) := by decide +kernel
theorem dX1_asInt_5 : decode cX1_asInt 5 = .ok (.goto 4, 3) := by decide +kernel
theorem dX1_asInt_8 : decode cX1_asInt 8 = .ok (.iconst 0, 1) := by decide +kernel
theorem dX1_asInt_9 : decode cX1_asInt 9 = .ok (.ireturn, 1) := by decide +kernel
theorem dX2_init_0 : decode cX2_init 0 = .ok (.aload_n 0, 1) := by decide +kernel
theorem dX2_init_1 : decode cX2_init 1 = .ok (.invokespecial 3, 3) := by decide +kernel
theorem dX2_init_4 : decode cX2_init 4 = .ok (.aload_n 0, 1) := by decide +kernel
theorem dX2_init_5 : decode cX2_init 5 = .ok (.new 9, 3) := by decide +kernel
theorem dX2_init_8 : decode cX2_init 8 = .ok (.dup, 1) := by decide +kernel
theorem dX2_init_9 : decode cX2_init 9 = .ok (.bipush 50, 2) := by decide +kernel
theorem dX2_init_11 : decode cX2_init 11 = .ok (.invokespecial 11, 3) := by decide +kernel
theorem dX2_init_14 : decode cX2_init 14 = .ok (.putfield 14, 3) := by decide +kernel
theorem dX2_init_17 : decode cX2_init 17 = .ok (.aload_n 0, 1) := by decide +kernel
theorem dX2_init_18 : decode cX2_init 18 = .ok (.new 9, 3) := by decide +kernel
theorem dX2_init_21 : decode cX2_init 21 = .ok (.dup, 1) := by decide +kernel
theorem dX2_init_22 : decode cX2_init 22 = .ok (.bipush 50, 2) := by decide +kernel
theorem dX2_init_24 : decode cX2_init 24 = .ok (.invokespecial 11, 3) := by decide +kernel
theorem dX2_init_27 : decode cX2_init 27 = .ok (.putfield 20, 3) := by decide +kernel
theorem dX2_init_30 : decode cX2_init 30 = .ok (.return_, 1) := by decide +kernel
theorem dX2_read_0 : decode cX2_read 0 = .ok (.aload_n 0, 1) := by decide +kernel
theorem dX2_read_1 : decode cX2_read 1 = .ok (.getfield 14, 3) := by decide +kernel
theorem dX2_read_4 : decode cX2_read 4 = .ok (.aload_n 1, 1) := by decide +kernel
theorem dX2_read_5 : decode cX2_read 5 = .ok (.invokevirtual 23, 3) := by decide +kernel
theorem dX2_read_8 : decode cX2_read 8 = .ok (.aload_n 0, 1) := by decide +kernel
theorem dX2_read_9 : decode cX2_read 9 = .ok (.getfield 20, 3) := by decide +kernel
theorem dX2_read_12 : decode cX2_read 12 = .ok (.invokevirtual 27, 3) := by decide +kernel
theorem dX2_read_15 : decode cX2_read 15 = .ok (.aload_n 0, 1) := by decide +kernel
theorem dX2_read_16 : decode cX2_read 16 = .ok (.iload_n 2, 1) := by decide +kernel
theorem dX2_read_17 : decode cX2_read 17 = .ok (.putfield 30, 3) := by decide +kernel
theorem dX2_read_20 : decode cX2_read 20 = .ok (.aload_n 0, 1) := by decide +kernel
theorem dX2_read_21 : decode cX2_read 21 = .ok (.iconst 0, 1) := by decide +kernel
theorem dX2_read_22 : decode cX2_read 22 = .ok (.putfield 34, 3) := by decide +kernel
theorem dX2_read_25 : decode cX2_read 25 = .ok (.aload_n 0, 1) := by decide +kernel
theorem dX2_read_26 : decode cX2_read 26 = .ok (.iconst 0, 1) := by decide +kernel
theorem dX2_read_27 : decode cX2_read 27 = .ok (.iconst 0, 1) := by decide +kernel
theorem dX2_read_28 : decode cX2_read 28 = .ok (.invokevirtual 37, 3) := by decide +kernel
theorem dX2_read_31 : decode cX2_read 31 = .ok (.istore_n 3, 1) := by decide +kernel
theorem dX2_read_32 : decode cX2_read 32 = .ok (.iload_n 3, 1) := by decide +kernel
theorem dX2_read_33 : decode cX2_read 33 = .ok (.ifCond .eq 21, 3) := by decide +kernel
theorem dX2_read_36 : decode cX2_read 36 = .ok (.aload_n 0, 1) := by decide +kernel
theorem dX2_read_37 : decode cX2_read 37 = .ok (.getfield 34, 3) := by decide +kernel
theorem dX2_read_40 : decode cX2_read 40 = .ok (.aload_n 0, 1) := by decide +kernel
theorem dX2_read_41 : decode cX2_read 41 = .ok (.getfield 14, 3) := by decide +kernel
theorem dX2_read_44 : decode cX2_read 44 = .ok (.getfield 41, 3) := by decide +kernel
theorem dX2_read_47 : decode cX2_read 47 = .ok (.if_icmp .lt 7, 3) := by decide +kernel
theorem dX2_read_50 : decode cX2_read 50 = .ok (.iconst (-1), 1) := by decide +kernel
theorem dX2_read_51 : decode cX2_read 51 = .ok (.goto 7, 3) := by decide +kernel
theorem dX2_read_54 : decode cX2_read 54 = .ok (.aload_n 0, 1) := by decide +kernel
theorem dX2_read_55 : decode cX2_read 55 = .ok (.getfield 34, 3) := by decide +kernel
theorem dX2_read_58 : decode cX2_read 58 = .ok (.ireturn, 1) := by decide +kernel
theorem dX2_here_0 : decode cX2_here 0 = .ok (.aload_n 0, 1) := by decide +kernel
theorem dX2_here_1 : decode cX2_here 1 = .ok (.getfield 14, 3) := by decide +kernel
theorem dX2_here_4 : decode cX2_here 4 = .ok (.aload_n 0, 1) := by decide +kernel
theorem dX2_here_5 : decode cX2_here 5 = .ok (.getfield 34, 3) := by decide +kernel
theorem dX2_here_8 : decode cX2_here 8 = .ok (.invokevirtual 44, 3) := by decide +kernel
theorem dX2_here_11 : decode cX2_here 11 = .ok (.ifCond .eq 17, 3) := by decide +kernel
theorem dX2_here_14 : decode cX2_here 14 = .ok (.aload_n 0, 1) := by decide +kernel
theorem dX2_here_15 : decode cX2_here 15 = .ok (.getfield 14, 3) := by decide +kernel
theorem dX2_here_18 : decode cX2_here 18 = .ok (.aload_n 0, 1) := by decide +kernel
theorem dX2_here_19 : decode cX2_here 19 = .ok (.getfield 34, 3) := by decide +kernel
theorem dX2_here_22 : decode cX2_here 22 = .ok (.invokevirtual 48, 3) := by decide +kernel
theorem dX2_here_25 : decode cX2_here 25 = .ok (.goto 4, 3) := by decide +kernel
theorem dX2_here_28 : decode cX2_here 28 = .ok (.iconst (-1), 1) := by decide +kernel
theorem dX2_here_29 : decode cX2_here 29 = .ok (.ireturn, 1) := by decide +kernel
theorem dX2_readLevel_0 : decode cX2_readLevel 0 = .ok (.iload_n 1, 1) := by decide +kernel
theorem dX2_readLevel_1 : decode cX2_readLevel 1 = .ok (.iconst 5, 1) := by decide +kernel
theorem dX2_readLevel_2 : decode cX2_readLevel 2 = .ok (.if_icmp .lt 9, 3) := by decide +kernel
theorem dX2_readLevel_5 : decode cX2_readLevel 5 = .ok (.aload_n 0, 1) := by decide +kernel
theorem dX2_readLevel_6 : decode cX2_readLevel 6 = .ok (.iload_n 2, 1) := by decide +kernel
theorem dX2_readLevel_7 : decode cX2_readLevel 7 = .ok (.invokevirtual 52, 3) := by decide +kernel
theorem dX2_readLevel_10 : decode cX2_readLevel 10 = .ok (.ireturn, 1) := by decide +kernel
theorem dX2_readLevel_11 : decode cX2_readLevel 11 = .ok (.aload_n 0, 1) := by decide +kernel
theorem dX2_readLevel_12 : decode cX2_readLevel 12 = .ok (.iload_n 1, 1) := by decide +kernel
theorem dX2_readLevel_13 : decode cX2_readLevel 13 = .ok (.iconst 1, 1) := by decide +kernel
theorem dX2_readLevel_14 : decode cX2_readLevel 14 = .ok (.iadd, 1) := by decide +kernel
theorem dX2_readLevel_15 : decode cX2_readLevel 15 = .ok (.iload_n 2, 1) := by decide +kernel
theorem dX2_readLevel_16 : decode cX2_readLevel 16 = .ok (.invokevirtual 37, 3) := by decide +kernel
theorem dX2_readLevel_19 : decode cX2_readLevel 19 = .ok (.istore_n 3, 1) := by decide +kernel
theorem dX2_readLevel_20 : decode cX2_readLevel 20 = .ok (.iconst 0, 1) := by decide +kernel
theorem dX2_readLevel_21 : decode cX2_readLevel 21 = .ok (.istore 4, 2) := by decide +kernel
theorem dX2_readLevel_23 : decode cX2_readLevel 23 = .ok (.iload 4, 2) := by decide +kernel
theorem dX2_readLevel_25 : decode cX2_readLevel 25 = .ok (.bipush 50, 2) := by decide +kernel
theorem dX2_readLevel_27 : decode cX2_readLevel 27 = .ok (.if_icmp .ge 67, 3) := by decide +kernel
theorem dX2_readLevel_30 : decode cX2_readLevel 30 = .ok (.iload_n 3, 1) := by decide +kernel
theorem dX2_readLevel_31 : decode cX2_readLevel 31 = .ok (.ifCond .eq 63, 3) := by decide +kernel
theorem dX2_readLevel_34 : decode cX2_readLevel 34 = .ok (.aload_n 0, 1) := by decide +kernel
theorem dX2_readLevel_35 : decode cX2_readLevel 35 = .ok (.invokevirtual 55, 3) := by decide +kernel
theorem dX2_readLevel_38 : decode cX2_readLevel 38 = .ok (.invokestatic 59, 3) := by decide +kernel
theorem dX2_readLevel_41 : decode cX2_readLevel 41 = .ok (.iload_n 1, 1) := by decide +kernel
theorem dX2_readLevel_42 : decode cX2_readLevel 42 = .ok (.if_icmp .ne 52, 3) := by decide +kernel
theorem dX2_readLevel_45 : decode cX2_readLevel 45 = .ok (.aload_n 0, 1) := by decide +kernel
theorem dX2_readLevel_46 : decode cX2_readLevel 46 = .ok (.invokevirtual 55, 3) := by decide +kernel
theorem dX2_readLevel_49 : decode cX2_readLevel 49 = .ok (.istore 5, 2) := by decide +kernel
theorem dX2_readLevel_51 : decode cX2_readLevel 51 = .ok (.aload_n 0, 1) := by decide +kernel
theorem dX2_readLevel_52 : decode cX2_readLevel 52 = .ok (.dup, 1) := by decide +kernel
theorem dX2_readLevel_53 : decode cX2_readLevel 53 = .ok (.getfield 34, 3) := by decide +kernel
theorem dX2_readLevel_56 : decode cX2_readLevel 56 = .ok (.iconst 1, 1) := by decide +kernel
theorem dX2_readLevel_57 : decode cX2_readLevel 57 = .ok (.iadd, 1) := by decide +kernel
theorem dX2_readLevel_58 : decode cX2_readLevel 58 = .ok (.putfield 34, 3) := by decide +kernel
theorem dX2_readLevel_61 : decode cX2_readLevel 61 = .ok (.aload_n 0, 1) := by decide +kernel
theorem dX2_readLevel_62 : decode cX2_readLevel 62 = .ok (.iload_n 1, 1) := by decide +kernel
theorem dX2_readLevel_63 : decode cX2_readLevel 63 = .ok (.iconst 1, 1) := by decide +kernel
theorem dX2_readLevel_64 : decode cX2_readLevel 64 = .ok (.iadd, 1) := by decide +kernel
theorem dX2_readLevel_65 : decode cX2_readLevel 65 = .ok (.iload_n 2, 1) := by decide +kernel
theorem dX2_readLevel_66 : decode cX2_readLevel 66 = .ok (.invokevirtual 37, 3) := by decide +kernel
theorem dX2_readLevel_69 : decode cX2_readLevel 69 = .ok (.istore_n 3, 1) := by decide +kernel
theorem dX2_readLevel_70 : decode cX2_readLevel 70 = .ok (.aload_n 0, 1) := by decide +kernel
theorem dX2_readLevel_71 : decode cX2_readLevel 71 = .ok (.getfield 20, 3) := by decide +kernel
theorem dX2_readLevel_74 : decode cX2_readLevel 74 = .ok (.iload 5, 2) := by decide +kernel
theorem dX2_readLevel_76 : decode cX2_readLevel 76 = .ok (.ineg, 1) := by decide +kernel
theorem dX2_readLevel_77 : decode cX2_readLevel 77 = .ok (.invokevirtual 62, 3) := by decide +kernel
theorem dX2_readLevel_80 : decode cX2_readLevel 80 = .ok (.pop, 1) := by decide +kernel
theorem dX2_readLevel_81 : decode cX2_readLevel 81 = .ok (.iload_n 1, 1) := by decide +kernel
theorem dX2_readLevel_82 : decode cX2_readLevel 82 = .ok (.iconst 2, 1) := by decide +kernel
theorem dX2_readLevel_83 : decode cX2_readLevel 83 = .ok (.if_icmp .ne 5, 3) := by decide +kernel
theorem dX2_readLevel_86 : decode cX2_readLevel 86 = .ok (.iload_n 3, 1) := by decide +kernel
theorem dX2_readLevel_87 : decode cX2_readLevel 87 = .ok (.ireturn, 1) := by decide +kernel
theorem dX2_readLevel_88 : decode cX2_readLevel 88 = .ok (.iinc 4 1, 3) := by decide +kernel
theorem dX2_readLevel_91 : decode cX2_readLevel 91 = .ok (.goto (-68), 3) := by decide +kernel
theorem dX2_readLevel_94 : decode cX2_readLevel 94 = .ok (.iload_n 3, 1) := by decide +kernel
theorem dX2_readLevel_95 : decode cX2_readLevel 95 = .ok (.ireturn, 1) := by decide +kernel
theorem dX2_readSingle_0 : decode cX2_readSingle 0 = .ok (.aload_n 0, 1) := by decide +kernel
theorem dX2_readSingle_1 : decode cX2_readSingle 1 = .ok (.invokevirtual 55, 3) := by decide +kernel
theorem dX2_readSingle_4 : decode cX2_readSingle 4 = .ok (.istore_n 2, 1) := by decide +kernel
theorem dX2_readSingle_5 : decode cX2_readSingle 5 = .ok (.iload_n 2, 1) := by decide +kernel
theorem dX2_readSingle_6 : decode cX2_readSingle 6 = .ok (.invokestatic 65, 3) := by decide +kernel
theorem dX2_readSingle_9 : decode cX2_readSingle 9 = .ok (.ifCond .eq 9, 3) := by decide +kernel
theorem dX2_readSingle_12 : decode cX2_readSingle 12 = .ok (.aload_n 0, 1) := by decide +kernel
theorem dX2_readSingle_13 : decode cX2_readSingle 13 = .ok (.invokevirtual 68, 3) := by decide +kernel
theorem dX2_readSingle_16 : decode cX2_readSingle 16 = .ok (.iconst 1, 1) := by decide +kernel
theorem dX2_readSingle_17 : decode cX2_readSingle 17 = .ok (.ireturn, 1) := by decide +kernel
theorem dX2_readSingle_18 : decode cX2_readSingle 18 = .ok (.aload_n 0, 1) := by decide +kernel
theorem dX2_readSingle_19 : decode cX2_readSingle 19 = .ok (.iload_n 2, 1) := by decide +kernel
theorem dX2_readSingle_20 : decode cX2_readSingle 20 = .ok (.invokevirtual 71, 3) := by decide +kernel
theorem dX2_readSingle_23 : decode cX2_readSingle 23 = .ok (.istore_n 3, 1) := by decide +kernel
theorem dX2_readSingle_24 : decode cX2_readSingle 24 = .ok (.iload_n 3, 1) := by decide +kernel
theorem dX2_readSingle_25 : decode cX2_readSingle 25 = .ok (.ifCond .eq 24, 3) := by decide +kernel
theorem dX2_readSingle_28 : decode cX2_readSingle 28 = .ok (.aload_n 0, 1) := by decide +kernel
theorem dX2_readSingle_29 : decode cX2_readSingle 29 = .ok (.dup, 1) := by decide +kernel
theorem dX2_readSingle_30 : decode cX2_readSingle 30 = .ok (.getfield 34, 3) := by decide +kernel
theorem dX2_readSingle_33 : decode cX2_readSingle 33 = .ok (.iconst 1, 1) := by decide +kernel
theorem dX2_readSingle_34 : decode cX2_readSingle 34 = .ok (.iadd, 1) := by decide +kernel
theorem dX2_readSingle_35 : decode cX2_readSingle 35 = .ok (.putfield 34, 3) := by decide +kernel
theorem dX2_readSingle_38 : decode cX2_readSingle 38 = .ok (.aload_n 0, 1) := by decide +kernel
theorem dX2_readSingle_39 : decode cX2_readSingle 39 = .ok (.getfield 20, 3) := by decide +kernel
theorem dX2_readSingle_42 : decode cX2_readSingle 42 = .ok (.iload_n 3, 1) := by decide +kernel
theorem dX2_readSingle_43 : decode cX2_readSingle 43 = .ok (.invokevirtual 62, 3) := by decide +kernel
theorem dX2_readSingle_46 : decode cX2_readSingle 46 = .ok (.pop, 1) := by decide +kernel
theorem dX2_readSingle_47 : decode cX2_readSingle 47 = .ok (.iconst 1, 1) := by decide +kernel
theorem dX2_readSingle_48 : decode cX2_readSingle 48 = .ok (.ireturn, 1) := by decide +kernel
theorem dX2_readSingle_49 : decode cX2_readSingle 49 = .ok (.iload_n 2, 1) := by decide +kernel
theorem dX2_readSingle_50 : decode cX2_readSingle 50 = .ok (.bipush 33, 2) := by decide +kernel
theorem dX2_readSingle_52 : decode cX2_readSingle 52 = .ok (.if_icmp .eq 9, 3) := by decide +kernel
theorem dX2_readSingle_55 : decode cX2_readSingle 55 = .ok (.iload_n 2, 1) := by decide +kernel
theorem dX2_readSingle_56 : decode cX2_readSingle 56 = .ok (.bipush 40, 2) := by decide +kernel
theorem dX2_readSingle_58 : decode cX2_readSingle 58 = .ok (.if_icmp .ne 8, 3) := by decide +kernel
theorem dX2_readSingle_61 : decode cX2_readSingle 61 = .ok (.iload_n 1, 1) := by decide +kernel
theorem dX2_readSingle_62 : decode cX2_readSingle 62 = .ok (.iconst 5, 1) := by decide +kernel
theorem dX2_readSingle_63 : decode cX2_readSingle 63 = .ok (.if_icmp .lt 5, 3) := by decide +kernel
theorem dX2_readSingle_66 : decode cX2_readSingle 66 = .ok (.iconst 0, 1) := by decide +kernel
theorem dX2_readSingle_67 : decode cX2_readSingle 67 = .ok (.ireturn, 1) := by decide +kernel
theorem dX2_readSingle_68 : decode cX2_readSingle 68 = .ok (.aload_n 0, 1) := by decide +kernel
theorem dX2_readSingle_69 : decode cX2_readSingle 69 = .ok (.dup, 1) := by decide +kernel
theorem dX2_readSingle_70 : decode cX2_readSingle 70 = .ok (.getfield 34, 3) := by decide +kernel
theorem dX2_readSingle_73 : decode cX2_readSingle 73 = .ok (.iconst 1, 1) := by decide +kernel
theorem dX2_readSingle_74 : decode cX2_readSingle 74 = .ok (.iadd, 1) := by decide +kernel
theorem dX2_readSingle_75 : decode cX2_readSingle 75 = .ok (.putfield 34, 3) := by decide +kernel
theorem dX2_readSingle_78 : decode cX2_readSingle 78 = .ok (.iload_n 2, 1) := by decide +kernel
theorem dX2_readSingle_79 : decode cX2_readSingle 79 = .ok (.bipush 33, 2) := by decide +kernel
theorem dX2_readSingle_81 : decode cX2_readSingle 81 = .ok (.if_icmp .ne 13, 3) := by decide +kernel
theorem dX2_readSingle_84 : decode cX2_readSingle 84 = .ok (.aload_n 0, 1) := by decide +kernel
theorem dX2_readSingle_85 : decode cX2_readSingle 85 = .ok (.iload_n 1, 1) := by decide +kernel
theorem dX2_readSingle_86 : decode cX2_readSingle 86 = .ok (.iconst 1, 1) := by decide +kernel
theorem dX2_readSingle_87 : decode cX2_readSingle 87 = .ok (.iadd, 1) := by decide +kernel
theorem dX2_readSingle_88 : decode cX2_readSingle 88 = .ok (.invokevirtual 74, 3) := by decide +kernel
theorem dX2_readSingle_91 : decode cX2_readSingle 91 = .ok (.goto 10, 3) := by decide +kernel
theorem dX2_readSingle_94 : decode cX2_readSingle 94 = .ok (.aload_n 0, 1) := by decide +kernel
theorem dX2_readSingle_95 : decode cX2_readSingle 95 = .ok (.iload_n 1, 1) := by decide +kernel
theorem dX2_readSingle_96 : decode cX2_readSingle 96 = .ok (.iconst 1, 1) := by decide +kernel
theorem dX2_readSingle_97 : decode cX2_readSingle 97 = .ok (.iadd, 1) := by decide +kernel
theorem dX2_readSingle_98 : decode cX2_readSingle 98 = .ok (.invokevirtual 77, 3) := by decide +kernel
theorem dX2_readSingle_101 : decode cX2_readSingle 101 = .ok (.ireturn, 1) := by decide +kernel
theorem dX2_readNot_0 : decode cX2_readNot 0 = .ok (.aload_n 0, 1) := by decide +kernel
theorem dX2_readNot_1 : decode cX2_readNot 1 = .ok (.iload_n 1, 1) := by decide +kernel
theorem dX2_readNot_2 : decode cX2_readNot 2 = .ok (.invokevirtual 52, 3) := by decide +kernel
theorem dX2_readNot_5 : decode cX2_readNot 5 = .ok (.istore_n 2, 1) := by decide +kernel
theorem dX2_readNot_6 : decode cX2_readNot 6 = .ok (.aload_n 0, 1) := by decide +kernel
theorem dX2_readNot_7 : decode cX2_readNot 7 = .ok (.getfield 20, 3) := by decide +kernel
theorem dX2_readNot_10 : decode cX2_readNot 10 = .ok (.bipush (-33), 2) := by decide +kernel
theorem dX2_readNot_12 : decode cX2_readNot 12 = .ok (.invokevirtual 62, 3) := by decide +kernel
theorem dX2_readNot_15 : decode cX2_readNot 15 = .ok (.pop, 1) := by decide +kernel
theorem dX2_readNot_16 : decode cX2_readNot 16 = .ok (.iload_n 2, 1) := by decide +kernel
theorem dX2_readNot_17 : decode cX2_readNot 17 = .ok (.ireturn, 1) := by decide +kernel
theorem dX2_readClosed_0 : decode cX2_readClosed 0 = .ok (.aload_n 0, 1) := by decide +kernel
theorem dX2_readClosed_1 : decode cX2_readClosed 1 = .ok (.iconst 0, 1) := by decide +kernel
theorem dX2_readClosed_2 : decode cX2_readClosed 2 = .ok (.iload_n 1, 1) := by decide +kernel
theorem dX2_readClosed_3 : decode cX2_readClosed 3 = .ok (.invokevirtual 37, 3) := by decide +kernel
theorem dX2_readClosed_6 : decode cX2_readClosed 6 = .ok (.ifCond .eq 12, 3) := by decide +kernel
theorem dX2_readClosed_9 : decode cX2_readClosed 9 = .ok (.aload_n 0, 1) := by decide +kernel
theorem dX2_readClosed_10 : decode cX2_readClosed 10 = .ok (.invokevirtual 55, 3) := by decide +kernel
theorem dX2_readClosed_13 : decode cX2_readClosed 13 = .ok (.bipush 41, 2) := by decide +kernel
theorem dX2_readClosed_15 : decode cX2_readClosed 15 = .ok (.if_icmp .eq 5, 3) := by decide +kernel
theorem dX2_readClosed_18 : decode cX2_readClosed 18 = .ok (.iconst 0, 1) := by decide +kernel
theorem dX2_readClosed_19 : decode cX2_readClosed 19 = .ok (.ireturn, 1) := by decide +kernel
theorem dX2_readClosed_20 : decode cX2_readClosed 20 = .ok (.aload_n 0, 1) := by decide +kernel
theorem dX2_readClosed_21 : decode cX2_readClosed 21 = .ok (.dup, 1) := by decide +kernel
theorem dX2_readClosed_22 : decode cX2_readClosed 22 = .ok (.getfield 34, 3) := by decide +kernel
theorem dX2_readClosed_25 : decode cX2_readClosed 25 = .ok (.iconst 1, 1) := by decide +kernel
theorem dX2_readClosed_26 : decode cX2_readClosed 26 = .ok (.iadd, 1) := by decide +kernel
theorem dX2_readClosed_27 : decode cX2_readClosed 27 = .ok (.putfield 34, 3) := by decide +kernel
theorem dX2_readClosed_30 : decode cX2_readClosed 30 = .ok (.iconst 1, 1) := by decide +kernel
theorem dX2_readClosed_31 : decode cX2_readClosed 31 = .ok (.ireturn, 1) := by decide +kernel
theorem dX2_readNumber_0 : decode cX2_readNumber 0 = .ok (.iconst 0, 1) := by decide +kernel
theorem dX2_readNumber_1 : decode cX2_readNumber 1 = .ok (.istore_n 1, 1) := by decide +kernel
theorem dX2_readNumber_2 : decode cX2_readNumber 2 = .ok (.iconst 0, 1) := by decide +kernel
theorem dX2_readNumber_3 : decode cX2_readNumber 3 = .ok (.istore_n 2, 1) := by decide +kernel
theorem dX2_readNumber_4 : decode cX2_readNumber 4 = .ok (.iload_n 2, 1) := by decide +kernel
theorem dX2_readNumber_5 : decode cX2_readNumber 5 = .ok (.iconst 4, 1) := by decide +kernel
theorem dX2_readNumber_6 : decode cX2_readNumber 6 = .ok (.if_icmp .ge 42, 3) := by decide +kernel
theorem dX2_readNumber_9 : decode cX2_readNumber 9 = .ok (.aload_n 0, 1) := by decide +kernel
theorem dX2_readNumber_10 : decode cX2_readNumber 10 = .ok (.invokevirtual 55, 3) := by decide +kernel
theorem dX2_readNumber_13 : decode cX2_readNumber 13 = .ok (.invokestatic 65, 3) := by decide +kernel
theorem dX2_readNumber_16 : decode cX2_readNumber 16 = .ok (.ifCond .eq 32, 3) := by decide +kernel
theorem dX2_readNumber_19 : decode cX2_readNumber 19 = .ok (.iload_n 1, 1) := by decide +kernel
theorem dX2_readNumber_20 : decode cX2_readNumber 20 = .ok (.bipush 10, 2) := by decide +kernel
theorem dX2_readNumber_22 : decode cX2_readNumber 22 = .ok (.imul, 1) := by decide +kernel
theorem dX2_readNumber_23 : decode cX2_readNumber 23 = .ok (.aload_n 0, 1) := by decide +kernel
theorem dX2_readNumber_24 : decode cX2_readNumber 24 = .ok (.invokevirtual 55, 3) := by decide +kernel
theorem dX2_readNumber_27 : decode cX2_readNumber 27 = .ok (.iadd, 1) := by decide +kernel
theorem dX2_readNumber_28 : decode cX2_readNumber 28 = .ok (.bipush 48, 2) := by decide +kernel
theorem dX2_readNumber_30 : decode cX2_readNumber 30 = .ok (.isub, 1) := by decide +kernel
theorem dX2_readNumber_31 : decode cX2_readNumber 31 = .ok (.istore_n 1, 1) := by decide +kernel
theorem dX2_readNumber_32 : decode cX2_readNumber 32 = .ok (.aload_n 0, 1) := by decide +kernel
theorem dX2_readNumber_33 : decode cX2_readNumber 33 = .ok (.dup, 1) := by decide +kernel
theorem dX2_readNumber_34 : decode cX2_readNumber 34 = .ok (.getfield 34, 3) := by decide +kernel
theorem dX2_readNumber_37 : decode cX2_readNumber 37 = .ok (.iconst 1, 1) := by decide +kernel
theorem dX2_readNumber_38 : decode cX2_readNumber 38 = .ok (.iadd, 1) := by decide +kernel
theorem dX2_readNumber_39 : decode cX2_readNumber 39 = .ok (.putfield 34, 3) := by decide +kernel
theorem dX2_readNumber_42 : decode cX2_readNumber 42 = .ok (.iinc 2 1, 3) := by decide +kernel
theorem dX2_readNumber_45 : decode cX2_readNumber 45 = .ok (.goto (-41), 3) := by decide +kernel
theorem dX2_readNumber_48 : decode cX2_readNumber 48 = .ok (.aload_n 0, 1) := by decide +kernel
theorem dX2_readNumber_49 : decode cX2_readNumber 49 = .ok (.getfield 20, 3) := by decide +kernel
theorem dX2_readNumber_52 : decode cX2_readNumber 52 = .ok (.iload_n 1, 1) := by decide +kernel
theorem dX2_readNumber_53 : decode cX2_readNumber 53 = .ok (.invokevirtual 62, 3) := by decide +kernel
theorem dX2_readNumber_56 : decode cX2_readNumber 56 = .ok (.pop, 1) := by decide +kernel
theorem dX2_readNumber_57 : decode cX2_readNumber 57 = .ok (.return_, 1) := by decide +kernel
theorem dX2_nameOf_0 : decode cX2_nameOf 0 = .ok (.iload_n 1, 1) := by decide +kernel
theorem dX2_nameOf_1 : decode cX2_nameOf 1 = .ok (.lookupswitch 144 #[(99, 114), (110, 59), (112, 72), (113, 129), (114, 100), (119, 86)], 59) := by decide +kernel
theorem dX2_nameOf_60 : decode cX2_nameOf 60 = .ok (.aload_n 0, 1) := by decide +kernel
theorem dX2_nameOf_61 : decode cX2_nameOf 61 = .ok (.getfield 30, 3) := by decide +kernel
theorem dX2_nameOf_64 : decode cX2_nameOf 64 = .ok (.ifCond .ne 7, 3) := by decide +kernel
theorem dX2_nameOf_67 : decode cX2_nameOf 67 = .ok (.iconst (-1), 1) := by decide +kernel
theorem dX2_nameOf_68 : decode cX2_nameOf 68 = .ok (.goto 4, 3) := by decide +kernel
theorem dX2_nameOf_71 : decode cX2_nameOf 71 = .ok (.iconst 0, 1) := by decide +kernel
theorem dX2_nameOf_72 : decode cX2_nameOf 72 = .ok (.ireturn, 1) := by decide +kernel
theorem dX2_nameOf_73 : decode cX2_nameOf 73 = .ok (.aload_n 0, 1) := by decide +kernel
theorem dX2_nameOf_74 : decode cX2_nameOf 74 = .ok (.getfield 30, 3) := by decide +kernel
theorem dX2_nameOf_77 : decode cX2_nameOf 77 = .ok (.ifCond .ne 8, 3) := by decide +kernel
theorem dX2_nameOf_80 : decode cX2_nameOf 80 = .ok (.bipush (-2), 2) := by decide +kernel
theorem dX2_nameOf_82 : decode cX2_nameOf 82 = .ok (.goto 4, 3) := by decide +kernel
theorem dX2_nameOf_85 : decode cX2_nameOf 85 = .ok (.iconst 0, 1) := by decide +kernel
theorem dX2_nameOf_86 : decode cX2_nameOf 86 = .ok (.ireturn, 1) := by decide +kernel
theorem dX2_nameOf_87 : decode cX2_nameOf 87 = .ok (.aload_n 0, 1) := by decide +kernel
theorem dX2_nameOf_88 : decode cX2_nameOf 88 = .ok (.getfield 30, 3) := by decide +kernel
theorem dX2_nameOf_91 : decode cX2_nameOf 91 = .ok (.ifCond .ne 8, 3) := by decide +kernel
theorem dX2_nameOf_94 : decode cX2_nameOf 94 = .ok (.bipush (-3), 2) := by decide +kernel
theorem dX2_nameOf_96 : decode cX2_nameOf 96 = .ok (.goto 4, 3) := by decide +kernel
theorem dX2_nameOf_99 : decode cX2_nameOf 99 = .ok (.iconst 0, 1) := by decide +kernel
theorem dX2_nameOf_100 : decode cX2_nameOf 100 = .ok (.ireturn, 1) := by decide +kernel
theorem dX2_nameOf_101 : decode cX2_nameOf 101 = .ok (.aload_n 0, 1) := by decide +kernel
theorem dX2_nameOf_102 : decode cX2_nameOf 102 = .ok (.getfield 30, 3) := by decide +kernel
theorem dX2_nameOf_105 : decode cX2_nameOf 105 = .ok (.iconst 1, 1) := by decide +kernel
theorem dX2_nameOf_106 : decode cX2_nameOf 106 = .ok (.if_icmp .ne 7, 3) := by decide +kernel
theorem dX2_nameOf_109 : decode cX2_nameOf 109 = .ok (.iconst (-1), 1) := by decide +kernel
theorem dX2_nameOf_110 : decode cX2_nameOf 110 = .ok (.goto 4, 3) := by decide +kernel
theorem dX2_nameOf_113 : decode cX2_nameOf 113 = .ok (.iconst 0, 1) := by decide +kernel
theorem dX2_nameOf_114 : decode cX2_nameOf 114 = .ok (.ireturn, 1) := by decide +kernel
theorem dX2_nameOf_115 : decode cX2_nameOf 115 = .ok (.aload_n 0, 1) := by decide +kernel
theorem dX2_nameOf_116 : decode cX2_nameOf 116 = .ok (.getfield 30, 3) := by decide +kernel
theorem dX2_nameOf_119 : decode cX2_nameOf 119 = .ok (.iconst 1, 1) := by decide +kernel
theorem dX2_nameOf_120 : decode cX2_nameOf 120 = .ok (.if_icmp .ne 8, 3) := by decide +kernel
theorem dX2_nameOf_123 : decode cX2_nameOf 123 = .ok (.bipush (-2), 2) := by decide +kernel
theorem dX2_nameOf_125 : decode cX2_nameOf 125 = .ok (.goto 4, 3) := by decide +kernel
theorem dX2_nameOf_128 : decode cX2_nameOf 128 = .ok (.iconst 0, 1) := by decide +kernel
theorem dX2_nameOf_129 : decode cX2_nameOf 129 = .ok (.ireturn, 1) := by decide +kernel
theorem dX2_nameOf_130 : decode cX2_nameOf 130 = .ok (.aload_n 0, 1) := by decide +kernel
theorem dX2_nameOf_131 : decode cX2_nameOf 131 = .ok (.getfield 30, 3) := by decide +kernel
theorem dX2_nameOf_134 : decode cX2_nameOf 134 = .ok (.iconst 1, 1) := by decide +kernel
theorem dX2_nameOf_135 : decode cX2_nameOf 135 = .ok (.if_icmp .ne 8, 3) := by decide +kernel
theorem dX2_nameOf_138 : decode cX2_nameOf 138 = .ok (.bipush (-3), 2) := by decide +kernel
theorem dX2_nameOf_140 : decode cX2_nameOf 140 = .ok (.goto 4, 3) := by decide +kernel
theorem dX2_nameOf_143 : decode cX2_nameOf 143 = .ok (.iconst 0, 1) := by decide +kernel
theorem dX2_nameOf_144 : decode cX2_nameOf 144 = .ok (.ireturn, 1) := by decide +kernel
theorem dX2_nameOf_145 : decode cX2_nameOf 145 = .ok (.iconst 0, 1) := by decide +kernel
theorem dX2_nameOf_146 : decode cX2_nameOf 146 = .ok (.ireturn, 1) := by decide +kernel
theorem dX2_isDigit_0 : decode cX2_isDigit 0 = .ok (.iload_n 0, 1) := by decide +kernel
theorem dX2_isDigit_1 : decode cX2_isDigit 1 = .ok (.bipush 48, 2) := by decide +kernel
theorem dX2_isDigit_3 : decode cX2_isDigit 3 = .ok (.if_icmp .lt 13, 3) := by decide +kernel
theorem dX2_isDigit_6 : decode cX2_isDigit 6 = .ok (.iload_n 0, 1) := by decide +kernel
theorem dX2_isDigit_7 : decode cX2_isDigit 7 = .ok (.bipush 57, 2) := by decide +kernel
theorem dX2_isDigit_9 : decode cX2_isDigit 9 = .ok (.if_icmp .gt 7, 3) := by decide +kernel
theorem dX2_isDigit_12 : decode cX2_isDigit 12 = .ok (.iconst 1, 1) := by decide +kernel
theorem dX2_isDigit_13 : decode cX2_isDigit 13 = .ok (.goto 4, 3) := by decide +kernel
theorem dX2_isDigit_16 : decode cX2_isDigit 16 = .ok (.iconst 0, 1) := by decide +kernel
theorem dX2_isDigit_17 : decode cX2_isDigit 17 = .ok (.ireturn, 1) := by decide +kernel
theorem dX2_levelOf_0 : decode cX2_levelOf 0 = .ok (.iload_n 0, 1) := by decide +kernel
theorem dX2_levelOf_1 : decode cX2_levelOf 1 = .ok (.lookupswitch 101 #[(37, 99), (38, 93), (42, 99), (43, 97), (45, 97), (47, 99), (60, 95), (61, 95), (62, 95), (124, 91)], 91) := by decide +kernel
theorem dX2_levelOf_92 : decode cX2_levelOf 92 = .ok (.iconst 0, 1) := by decide +kernel
theorem dX2_levelOf_93 : decode cX2_levelOf 93 = .ok (.ireturn, 1) := by decide +kernel
theorem dX2_levelOf_94 : decode cX2_levelOf 94 = .ok (.iconst 1, 1) := by decide +kernel
theorem dX2_levelOf_95 : decode cX2_levelOf 95 = .ok (.ireturn, 1) := by decide +kernel
theorem dX2_levelOf_96 : decode cX2_levelOf 96 = .ok (.iconst 2, 1) := by decide +kernel
theorem dX2_levelOf_97 : decode cX2_levelOf 97 = .ok (.ireturn, 1) := by decide +kernel
theorem dX2_levelOf_98 : decode cX2_levelOf 98 = .ok (.iconst 3, 1) := by decide +kernel
theorem dX2_levelOf_99 : decode cX2_levelOf 99 = .ok (.ireturn, 1) := by decide +kernel
theorem dX2_levelOf_100 : decode cX2_levelOf 100 = .ok (.iconst 4, 1) := by decide +kernel
theorem dX2_levelOf_101 : decode cX2_levelOf 101 = .ok (.ireturn, 1) := by decide +kernel
theorem dX2_levelOf_102 : decode cX2_levelOf 102 = .ok (.iconst (-1), 1) := by decide +kernel
theorem dX2_levelOf_103 : decode cX2_levelOf 103 = .ok (.ireturn, 1) := by decide +kernel
theorem dX3_init_0 : decode cX3_init 0 = .ok (.aload_n 0, 1) := by decide +kernel
theorem dX3_init_1 : decode cX3_init 1 = .ok (.invokespecial 1, 3) := by decide +kernel
theorem dX3_init_4 : decode cX3_init 4 = .ok (.aload_n 0, 1) := by decide +kernel
theorem dX3_init_5 : decode cX3_init 5 = .ok (.iconst 0, 1) := by decide +kernel
theorem dX3_init_6 : decode cX3_init 6 = .ok (.iload_n 1, 1) := by decide +kernel
theorem dX3_init_7 : decode cX3_init 7 = .ok (.invokestatic 7, 3) := by decide +kernel
theorem dX3_init_10 : decode cX3_init 10 = .ok (.newarray .int, 2) := by decide +kernel
theorem dX3_init_12 : decode cX3_init 12 = .ok (.putfield 13, 3) := by decide +kernel
theorem dX3_init_15 : decode cX3_init 15 = .ok (.return_, 1) := by decide +kernel
theorem dX3_has_0 : decode cX3_has 0 = .ok (.iload_n 1, 1) := by decide +kernel
theorem dX3_has_1 : decode cX3_has 1 = .ok (.ifCond .lt 24, 3) := by decide +kernel
theorem dX3_has_4 : decode cX3_has 4 = .ok (.iload_n 1, 1) := by decide +kernel
theorem dX3_has_5 : decode cX3_has 5 = .ok (.aload_n 0, 1) := by decide +kernel
theorem dX3_has_6 : decode cX3_has 6 = .ok (.getfield 19, 3) := by decide +kernel
theorem dX3_has_9 : decode cX3_has 9 = .ok (.if_icmp .ge 16, 3) := by decide +kernel
theorem dX3_has_12 : decode cX3_has 12 = .ok (.iload_n 1, 1) := by decide +kernel
theorem dX3_has_13 : decode cX3_has 13 = .ok (.aload_n 0, 1) := by decide +kernel
theorem dX3_has_14 : decode cX3_has 14 = .ok (.getfield 13, 3) := by decide +kernel
theorem dX3_has_17 : decode cX3_has 17 = .ok (.arraylength, 1) := by decide +kernel
theorem dX3_has_18 : decode cX3_has 18 = .ok (.if_icmp .ge 7, 3) := by decide +kernel
theorem dX3_has_21 : decode cX3_has 21 = .ok (.iconst 1, 1) := by decide +kernel
theorem dX3_has_22 : decode cX3_has 22 = .ok (.goto 4, 3) := by decide +kernel
theorem dX3_has_25 : decode cX3_has 25 = .ok (.iconst 0, 1) := by decide +kernel
theorem dX3_has_26 : decode cX3_has 26 = .ok (.ireturn, 1) := by decide +kernel
theorem dX3_get_0 : decode cX3_get 0 = .ok (.iload_n 1, 1) := by decide +kernel
theorem dX3_get_1 : decode cX3_get 1 = .ok (.ifCond .lt 29, 3) := by decide +kernel
theorem dX3_get_4 : decode cX3_get 4 = .ok (.iload_n 1, 1) := by decide +kernel
theorem dX3_get_5 : decode cX3_get 5 = .ok (.aload_n 0, 1) := by decide +kernel
theorem dX3_get_6 : decode cX3_get 6 = .ok (.getfield 19, 3) := by decide +kernel
theorem dX3_get_9 : decode cX3_get 9 = .ok (.if_icmp .ge 21, 3) := by decide +kernel
theorem dX3_get_12 : decode cX3_get 12 = .ok (.iload_n 1, 1) := by decide +kernel
theorem dX3_get_13 : decode cX3_get 13 = .ok (.aload_n 0, 1) := by decide +kernel
theorem dX3_get_14 : decode cX3_get 14 = .ok (.getfield 13, 3) := by decide +kernel
theorem dX3_get_17 : decode cX3_get 17 = .ok (.arraylength, 1) := by decide +kernel
theorem dX3_get_18 : decode cX3_get 18 = .ok (.if_icmp .ge 12, 3) := by decide +kernel
theorem dX3_get_21 : decode cX3_get 21 = .ok (.aload_n 0, 1) := by decide +kernel
theorem dX3_get_22 : decode cX3_get 22 = .ok (.getfield 13, 3) := by decide +kernel
theorem dX3_get_25 : decode cX3_get 25 = .ok (.iload_n 1, 1) := by decide +kernel
theorem dX3_get_26 : decode cX3_get 26 = .ok (.iaload, 1) := by decide +kernel
theorem dX3_get_27 : decode cX3_get 27 = .ok (.goto 4, 3) := by decide +kernel
theorem dX3_get_30 : decode cX3_get 30 = .ok (.iconst 0, 1) := by decide +kernel
theorem dX3_get_31 : decode cX3_get 31 = .ok (.ireturn, 1) := by decide +kernel
theorem dX3_set_0 : decode cX3_set 0 = .ok (.aload_n 0, 1) := by decide +kernel
theorem dX3_set_1 : decode cX3_set 1 = .ok (.iload_n 1, 1) := by decide +kernel
theorem dX3_set_2 : decode cX3_set 2 = .ok (.invokevirtual 23, 3) := by decide +kernel
theorem dX3_set_5 : decode cX3_set 5 = .ok (.ifCond .eq 10, 3) := by decide +kernel
theorem dX3_set_8 : decode cX3_set 8 = .ok (.aload_n 0, 1) := by decide +kernel
theorem dX3_set_9 : decode cX3_set 9 = .ok (.getfield 13, 3) := by decide +kernel
theorem dX3_set_12 : decode cX3_set 12 = .ok (.iload_n 1, 1) := by decide +kernel
theorem dX3_set_13 : decode cX3_set 13 = .ok (.iload_n 2, 1) := by decide +kernel
theorem dX3_set_14 : decode cX3_set 14 = .ok (.iastore, 1) := by decide +kernel
theorem dX3_set_15 : decode cX3_set 15 = .ok (.return_, 1) := by decide +kernel
theorem dX3_add_0 : decode cX3_add 0 = .ok (.aload_n 0, 1) := by decide +kernel
theorem dX3_add_1 : decode cX3_add 1 = .ok (.getfield 19, 3) := by decide +kernel
theorem dX3_add_4 : decode cX3_add 4 = .ok (.ifCond .lt 15, 3) := by decide +kernel
theorem dX3_add_7 : decode cX3_add 7 = .ok (.aload_n 0, 1) := by decide +kernel
theorem dX3_add_8 : decode cX3_add 8 = .ok (.getfield 19, 3) := by decide +kernel
theorem dX3_add_11 : decode cX3_add 11 = .ok (.aload_n 0, 1) := by decide +kernel
theorem dX3_add_12 : decode cX3_add 12 = .ok (.getfield 13, 3) := by decide +kernel
theorem dX3_add_15 : decode cX3_add 15 = .ok (.arraylength, 1) := by decide +kernel
theorem dX3_add_16 : decode cX3_add 16 = .ok (.if_icmp .lt 5, 3) := by decide +kernel
theorem dX3_add_19 : decode cX3_add 19 = .ok (.iconst 0, 1) := by decide +kernel
theorem dX3_add_20 : decode cX3_add 20 = .ok (.ireturn, 1) := by decide +kernel
theorem dX3_add_21 : decode cX3_add 21 = .ok (.aload_n 0, 1) := by decide +kernel
theorem dX3_add_22 : decode cX3_add 22 = .ok (.getfield 13, 3) := by decide +kernel
theorem dX3_add_25 : decode cX3_add 25 = .ok (.aload_n 0, 1) := by decide +kernel
theorem dX3_add_26 : decode cX3_add 26 = .ok (.getfield 19, 3) := by decide +kernel
theorem dX3_add_29 : decode cX3_add 29 = .ok (.iload_n 1, 1) := by decide +kernel
theorem dX3_add_30 : decode cX3_add 30 = .ok (.iastore, 1) := by decide +kernel
theorem dX3_add_31 : decode cX3_add 31 = .ok (.aload_n 0, 1) := by decide +kernel
theorem dX3_add_32 : decode cX3_add 32 = .ok (.dup, 1) := by decide +kernel
theorem dX3_add_33 : decode cX3_add 33 = .ok (.getfield 19, 3) := by decide +kernel
theorem dX3_add_36 : decode cX3_add 36 = .ok (.iconst 1, 1) := by decide +kernel
theorem dX3_add_37 : decode cX3_add 37 = .ok (.iadd, 1) := by decide +kernel
theorem dX3_add_38 : decode cX3_add 38 = .ok (.putfield 19, 3) := by decide +kernel
theorem dX3_add_41 : decode cX3_add 41 = .ok (.iconst 1, 1) := by decide +kernel
theorem dX3_add_42 : decode cX3_add 42 = .ok (.ireturn, 1) := by decide +kernel
theorem dX3_empty_0 : decode cX3_empty 0 = .ok (.aload_n 0, 1) := by decide +kernel
theorem dX3_empty_1 : decode cX3_empty 1 = .ok (.iconst 0, 1) := by decide +kernel
theorem dX3_empty_2 : decode cX3_empty 2 = .ok (.putfield 19, 3) := by decide +kernel
theorem dX3_empty_5 : decode cX3_empty 5 = .ok (.return_, 1) := by decide +kernel
theorem dX3_fillWithNone_0 : decode cX3_fillWithNone 0 = .ok (.aload_n 0, 1) := by decide +kernel
theorem dX3_fillWithNone_1 : decode cX3_fillWithNone 1 = .ok (.iconst 0, 1) := by decide +kernel
theorem dX3_fillWithNone_2 : decode cX3_fillWithNone 2 = .ok (.iload_n 1, 1) := by decide +kernel
theorem dX3_fillWithNone_3 : decode cX3_fillWithNone 3 = .ok (.aload_n 0, 1) := by decide +kernel
theorem dX3_fillWithNone_4 : decode cX3_fillWithNone 4 = .ok (.getfield 13, 3) := by decide +kernel
theorem dX3_fillWithNone_7 : decode cX3_fillWithNone 7 = .ok (.arraylength, 1) := by decide +kernel
theorem dX3_fillWithNone_8 : decode cX3_fillWithNone 8 = .ok (.invokestatic 27, 3) := by decide +kernel
theorem dX3_fillWithNone_11 : decode cX3_fillWithNone 11 = .ok (.invokestatic 7, 3) := by decide +kernel
theorem dX3_fillWithNone_14 : decode cX3_fillWithNone 14 = .ok (.putfield 19, 3) := by decide +kernel
theorem dX3_fillWithNone_17 : decode cX3_fillWithNone 17 = .ok (.iconst 0, 1) := by decide +kernel
theorem dX3_fillWithNone_18 : decode cX3_fillWithNone 18 = .ok (.istore_n 2, 1) := by decide +kernel
theorem dX3_fillWithNone_19 : decode cX3_fillWithNone 19 = .ok (.iload_n 2, 1) := by decide +kernel
theorem dX3_fillWithNone_20 : decode cX3_fillWithNone 20 = .ok (.aload_n 0, 1) := by decide +kernel
theorem dX3_fillWithNone_21 : decode cX3_fillWithNone 21 = .ok (.getfield 13, 3) := by decide +kernel
theorem dX3_fillWithNone_24 : decode cX3_fillWithNone 24 = .ok (.arraylength, 1) := by decide +kernel
theorem dX3_fillWithNone_25 : decode cX3_fillWithNone 25 = .ok (.if_icmp .ge 16, 3) := by decide +kernel
theorem dX3_fillWithNone_28 : decode cX3_fillWithNone 28 = .ok (.aload_n 0, 1) := by decide +kernel
theorem dX3_fillWithNone_29 : decode cX3_fillWithNone 29 = .ok (.getfield 13, 3) := by decide +kernel
theorem dX3_fillWithNone_32 : decode cX3_fillWithNone 32 = .ok (.iload_n 2, 1) := by decide +kernel
theorem dX3_fillWithNone_33 : decode cX3_fillWithNone 33 = .ok (.iconst 0, 1) := by decide +kernel
theorem dX3_fillWithNone_34 : decode cX3_fillWithNone 34 = .ok (.iastore, 1) := by decide +kernel
theorem dX3_fillWithNone_35 : decode cX3_fillWithNone 35 = .ok (.iinc 2 1, 3) := by decide +kernel
theorem dX3_fillWithNone_38 : decode cX3_fillWithNone 38 = .ok (.goto (-19), 3) := by decide +kernel
theorem dX3_fillWithNone_41 : decode cX3_fillWithNone 41 = .ok (.return_, 1) := by decide +kernel
theorem dX3_copyFrom_0 : decode cX3_copyFrom 0 = .ok (.aload_n 0, 1) := by decide +kernel
theorem dX3_copyFrom_1 : decode cX3_copyFrom 1 = .ok (.iconst 0, 1) := by decide +kernel
theorem dX3_copyFrom_2 : decode cX3_copyFrom 2 = .ok (.aload_n 1, 1) := by decide +kernel
theorem dX3_copyFrom_3 : decode cX3_copyFrom 3 = .ok (.getfield 19, 3) := by decide +kernel
theorem dX3_copyFrom_6 : decode cX3_copyFrom 6 = .ok (.aload_n 0, 1) := by decide +kernel
theorem dX3_copyFrom_7 : decode cX3_copyFrom 7 = .ok (.getfield 13, 3) := by decide +kernel
theorem dX3_copyFrom_10 : decode cX3_copyFrom 10 = .ok (.arraylength, 1) := by decide +kernel
theorem dX3_copyFrom_11 : decode cX3_copyFrom 11 = .ok (.invokestatic 27, 3) := by decide +kernel
theorem dX3_copyFrom_14 : decode cX3_copyFrom 14 = .ok (.invokestatic 7, 3) := by decide +kernel
theorem dX3_copyFrom_17 : decode cX3_copyFrom 17 = .ok (.putfield 19, 3) := by decide +kernel
theorem dX3_copyFrom_20 : decode cX3_copyFrom 20 = .ok (.aload_n 0, 1) := by decide +kernel
theorem dX3_copyFrom_21 : decode cX3_copyFrom 21 = .ok (.aload_n 1, 1) := by decide +kernel
theorem dX3_copyFrom_22 : decode cX3_copyFrom 22 = .ok (.iconst 0, 1) := by decide +kernel
theorem dX3_copyFrom_23 : decode cX3_copyFrom 23 = .ok (.iconst 0, 1) := by decide +kernel
theorem dX3_copyFrom_24 : decode cX3_copyFrom 24 = .ok (.aload_n 0, 1) := by decide +kernel
theorem dX3_copyFrom_25 : decode cX3_copyFrom 25 = .ok (.getfield 19, 3) := by decide +kernel
theorem dX3_copyFrom_28 : decode cX3_copyFrom 28 = .ok (.invokevirtual 30, 3) := by decide +kernel
theorem dX3_copyFrom_31 : decode cX3_copyFrom 31 = .ok (.pop, 1) := by decide +kernel
theorem dX3_copyFrom_32 : decode cX3_copyFrom 32 = .ok (.return_, 1) := by decide +kernel
theorem dX3_takeFrom_0 : decode cX3_takeFrom 0 = .ok (.iload 4, 2) := by decide +kernel
theorem dX3_takeFrom_2 : decode cX3_takeFrom 2 = .ok (.ifCond .lt 33, 3) := by decide +kernel
theorem dX3_takeFrom_5 : decode cX3_takeFrom 5 = .ok (.iload_n 2, 1) := by decide +kernel
theorem dX3_takeFrom_6 : decode cX3_takeFrom 6 = .ok (.ifCond .lt 29, 3) := by decide +kernel
theorem dX3_takeFrom_9 : decode cX3_takeFrom 9 = .ok (.iload_n 3, 1) := by decide +kernel
theorem dX3_takeFrom_10 : decode cX3_takeFrom 10 = .ok (.ifCond .lt 25, 3) := by decide +kernel
theorem dX3_takeFrom_13 : decode cX3_takeFrom 13 = .ok (.iload 4, 2) := by decide +kernel
theorem dX3_takeFrom_15 : decode cX3_takeFrom 15 = .ok (.aload_n 1, 1) := by decide +kernel
theorem dX3_takeFrom_16 : decode cX3_takeFrom 16 = .ok (.getfield 19, 3) := by decide +kernel
theorem dX3_takeFrom_19 : decode cX3_takeFrom 19 = .ok (.iload_n 2, 1) := by decide +kernel
theorem dX3_takeFrom_20 : decode cX3_takeFrom 20 = .ok (.isub, 1) := by decide +kernel
theorem dX3_takeFrom_21 : decode cX3_takeFrom 21 = .ok (.if_icmp .gt 14, 3) := by decide +kernel
theorem dX3_takeFrom_24 : decode cX3_takeFrom 24 = .ok (.iload 4, 2) := by decide +kernel
theorem dX3_takeFrom_26 : decode cX3_takeFrom 26 = .ok (.aload_n 0, 1) := by decide +kernel
theorem dX3_takeFrom_27 : decode cX3_takeFrom 27 = .ok (.getfield 19, 3) := by decide +kernel
theorem dX3_takeFrom_30 : decode cX3_takeFrom 30 = .ok (.iload_n 3, 1) := by decide +kernel
theorem dX3_takeFrom_31 : decode cX3_takeFrom 31 = .ok (.isub, 1) := by decide +kernel
theorem dX3_takeFrom_32 : decode cX3_takeFrom 32 = .ok (.if_icmp .le 5, 3) := by decide +kernel
theorem dX3_takeFrom_35 : decode cX3_takeFrom 35 = .ok (.iconst 0, 1) := by decide +kernel
theorem dX3_takeFrom_36 : decode cX3_takeFrom 36 = .ok (.ireturn, 1) := by decide +kernel
theorem dX3_takeFrom_37 : decode cX3_takeFrom 37 = .ok (.aload_n 1, 1) := by decide +kernel
theorem dX3_takeFrom_38 : decode cX3_takeFrom 38 = .ok (.getfield 13, 3) := by decide +kernel
theorem dX3_takeFrom_41 : decode cX3_takeFrom 41 = .ok (.iload_n 2, 1) := by decide +kernel
theorem dX3_takeFrom_42 : decode cX3_takeFrom 42 = .ok (.aload_n 0, 1) := by decide +kernel
theorem dX3_takeFrom_43 : decode cX3_takeFrom 43 = .ok (.getfield 13, 3) := by decide +kernel
theorem dX3_takeFrom_46 : decode cX3_takeFrom 46 = .ok (.iload_n 3, 1) := by decide +kernel
theorem dX3_takeFrom_47 : decode cX3_takeFrom 47 = .ok (.iload 4, 2) := by decide +kernel
theorem dX3_takeFrom_49 : decode cX3_takeFrom 49 = .ok (.invokestatic 34, 3) := by decide +kernel
theorem dX3_takeFrom_52 : decode cX3_takeFrom 52 = .ok (.iconst 1, 1) := by decide +kernel
theorem dX3_takeFrom_53 : decode cX3_takeFrom 53 = .ok (.ireturn, 1) := by decide +kernel
theorem dX4_init_0 : decode cX4_init 0 = .ok (.aload_n 0, 1) := by decide +kernel
theorem dX4_init_1 : decode cX4_init 1 = .ok (.invokespecial 3, 3) := by decide +kernel
theorem dX4_init_4 : decode cX4_init 4 = .ok (.aload_n 0, 1) := by decide +kernel
theorem dX4_init_5 : decode cX4_init 5 = .ok (.new 9, 3) := by decide +kernel
theorem dX4_init_8 : decode cX4_init 8 = .ok (.dup, 1) := by decide +kernel
theorem dX4_init_9 : decode cX4_init 9 = .ok (.bipush 40, 2) := by decide +kernel
theorem dX4_init_11 : decode cX4_init 11 = .ok (.invokespecial 11, 3) := by decide +kernel
theorem dX4_init_14 : decode cX4_init 14 = .ok (.putfield 14, 3) := by decide +kernel
theorem dX4_init_17 : decode cX4_init 17 = .ok (.return_, 1) := by decide +kernel
theorem dX4_lowestBits_0 : decode cX4_lowestBits 0 = .ok (.aload_n 0, 1) := by decide +kernel
theorem dX4_lowestBits_1 : decode cX4_lowestBits 1 = .ok (.getfield 20, 3) := by decide +kernel
theorem dX4_lowestBits_4 : decode cX4_lowestBits 4 = .ok (.bipush 8, 2) := by decide +kernel
theorem dX4_lowestBits_6 : decode cX4_lowestBits 6 = .ok (.if_icmp .ne 6, 3) := by decide +kernel
theorem dX4_lowestBits_9 : decode cX4_lowestBits 9 = .ok (.iload_n 1, 1) := by decide +kernel
theorem dX4_lowestBits_10 : decode cX4_lowestBits 10 = .ok (.i2b, 1) := by decide +kernel
theorem dX4_lowestBits_11 : decode cX4_lowestBits 11 = .ok (.ireturn, 1) := by decide +kernel
theorem dX4_lowestBits_12 : decode cX4_lowestBits 12 = .ok (.aload_n 0, 1) := by decide +kernel
theorem dX4_lowestBits_13 : decode cX4_lowestBits 13 = .ok (.getfield 20, 3) := by decide +kernel
theorem dX4_lowestBits_16 : decode cX4_lowestBits 16 = .ok (.bipush 16, 2) := by decide +kernel
theorem dX4_lowestBits_18 : decode cX4_lowestBits 18 = .ok (.if_icmp .ne 8, 3) := by decide +kernel
theorem dX4_lowestBits_21 : decode cX4_lowestBits 21 = .ok (.iload_n 1, 1) := by decide +kernel
theorem dX4_lowestBits_22 : decode cX4_lowestBits 22 = .ok (.i2s, 1) := by decide +kernel
theorem dX4_lowestBits_23 : decode cX4_lowestBits 23 = .ok (.goto 4, 3) := by decide +kernel
theorem dX4_lowestBits_26 : decode cX4_lowestBits 26 = .ok (.iload_n 1, 1) := by decide +kernel
theorem dX4_lowestBits_27 : decode cX4_lowestBits 27 = .ok (.ireturn, 1) := by decide +kernel
theorem dX5_init_0 : decode cX5_init 0 = .ok (.aload_n 0, 1) := by decide +kernel
theorem dX5_init_1 : decode cX5_init 1 = .ok (.invokespecial 3, 3) := by decide +kernel
theorem dX5_init_4 : decode cX5_init 4 = .ok (.aload_n 0, 1) := by decide +kernel
theorem dX5_init_5 : decode cX5_init 5 = .ok (.new 9, 3) := by decide +kernel
theorem dX5_init_8 : decode cX5_init 8 = .ok (.dup, 1) := by decide +kernel
theorem dX5_init_9 : decode cX5_init 9 = .ok (.bipush 40, 2) := by decide +kernel
theorem dX5_init_11 : decode cX5_init 11 = .ok (.invokespecial 11, 3) := by decide +kernel
theorem dX5_init_14 : decode cX5_init 14 = .ok (.putfield 14, 3) := by decide +kernel
theorem dX5_init_17 : decode cX5_init 17 = .ok (.return_, 1) := by decide +kernel
theorem dX5_speak_0 : decode cX5_speak 0 = .ok (.aload_n 0, 1) := by decide +kernel
theorem dX5_speak_1 : decode cX5_speak 1 = .ok (.getfield 14, 3) := by decide +kernel
theorem dX5_speak_4 : decode cX5_speak 4 = .ok (.invokevirtual 20, 3) := by decide +kernel
theorem dX5_speak_7 : decode cX5_speak 7 = .ok (.aload_n 0, 1) := by decide +kernel
theorem dX5_speak_8 : decode cX5_speak 8 = .ok (.aload_n 1, 1) := by decide +kernel
theorem dX5_speak_9 : decode cX5_speak 9 = .ok (.getfield 23, 3) := by decide +kernel
theorem dX5_speak_12 : decode cX5_speak 12 = .ok (.putfield 29, 3) := by decide +kernel
theorem dX5_speak_15 : decode cX5_speak 15 = .ok (.aload_n 0, 1) := by decide +kernel
theorem dX5_speak_16 : decode cX5_speak 16 = .ok (.aload_n 1, 1) := by decide +kernel
theorem dX5_speak_17 : decode cX5_speak 17 = .ok (.getfield 30, 3) := by decide +kernel
theorem dX5_speak_20 : decode cX5_speak 20 = .ok (.putfield 33, 3) := by decide +kernel
theorem dX5_speak_23 : decode cX5_speak 23 = .ok (.aload_n 0, 1) := by decide +kernel
theorem dX5_speak_24 : decode cX5_speak 24 = .ok (.iload_n 2, 1) := by decide +kernel
theorem dX5_speak_25 : decode cX5_speak 25 = .ok (.putfield 34, 3) := by decide +kernel
theorem dX5_speak_28 : decode cX5_speak 28 = .ok (.aload_n 0, 1) := by decide +kernel
theorem dX5_speak_29 : decode cX5_speak 29 = .ok (.aload_n 0, 1) := by decide +kernel
theorem dX5_speak_30 : decode cX5_speak 30 = .ok (.getfield 29, 3) := by decide +kernel
theorem dX5_speak_33 : decode cX5_speak 33 = .ok (.iload_n 3, 1) := by decide +kernel
theorem dX5_speak_34 : decode cX5_speak 34 = .ok (.iload 4, 2) := by decide +kernel
theorem dX5_speak_36 : decode cX5_speak 36 = .ok (.iconst 0, 1) := by decide +kernel
theorem dX5_speak_37 : decode cX5_speak 37 = .ok (.invokevirtual 37, 3) := by decide +kernel
theorem dX5_speak_40 : decode cX5_speak 40 = .ok (.ireturn, 1) := by decide +kernel
theorem dX5_bodyOf_0 : decode cX5_bodyOf 0 = .ok (.iload_n 0, 1) := by decide +kernel
theorem dX5_bodyOf_1 : decode cX5_bodyOf 1 = .ok (.istore_n 2, 1) := by decide +kernel
theorem dX5_bodyOf_2 : decode cX5_bodyOf 2 = .ok (.iconst 0, 1) := by decide +kernel
theorem dX5_bodyOf_3 : decode cX5_bodyOf 3 = .ok (.istore_n 3, 1) := by decide +kernel
theorem dX5_bodyOf_4 : decode cX5_bodyOf 4 = .ok (.iload_n 3, 1) := by decide +kernel
theorem dX5_bodyOf_5 : decode cX5_bodyOf 5 = .ok (.getstatic 41, 3) := by decide +kernel
theorem dX5_bodyOf_8 : decode cX5_bodyOf 8 = .ok (.arraylength, 1) := by decide +kernel
theorem dX5_bodyOf_9 : decode cX5_bodyOf 9 = .ok (.if_icmp .ge 68, 3) := by decide +kernel
theorem dX5_bodyOf_12 : decode cX5_bodyOf 12 = .ok (.iload_n 2, 1) := by decide +kernel
theorem dX5_bodyOf_13 : decode cX5_bodyOf 13 = .ok (.ifCond .lt 64, 3) := by decide +kernel
theorem dX5_bodyOf_16 : decode cX5_bodyOf 16 = .ok (.iload_n 2, 1) := by decide +kernel
theorem dX5_bodyOf_17 : decode cX5_bodyOf 17 = .ok (.getstatic 41, 3) := by decide +kernel
theorem dX5_bodyOf_20 : decode cX5_bodyOf 20 = .ok (.arraylength, 1) := by decide +kernel
theorem dX5_bodyOf_21 : decode cX5_bodyOf 21 = .ok (.if_icmp .ge 56, 3) := by decide +kernel
theorem dX5_bodyOf_24 : decode cX5_bodyOf 24 = .ok (.iconst 4, 1) := by decide +kernel
theorem dX5_bodyOf_25 : decode cX5_bodyOf 25 = .ok (.iload_n 2, 1) := by decide +kernel
theorem dX5_bodyOf_26 : decode cX5_bodyOf 26 = .ok (.imul, 1) := by decide +kernel
theorem dX5_bodyOf_27 : decode cX5_bodyOf 27 = .ok (.iload_n 1, 1) := by decide +kernel
theorem dX5_bodyOf_28 : decode cX5_bodyOf 28 = .ok (.iadd, 1) := by decide +kernel
theorem dX5_bodyOf_29 : decode cX5_bodyOf 29 = .ok (.istore 4, 2) := by decide +kernel
theorem dX5_bodyOf_31 : decode cX5_bodyOf 31 = .ok (.iload 4, 2) := by decide +kernel
theorem dX5_bodyOf_33 : decode cX5_bodyOf 33 = .ok (.ifCond .lt 21, 3) := by decide +kernel
theorem dX5_bodyOf_36 : decode cX5_bodyOf 36 = .ok (.iload 4, 2) := by decide +kernel
theorem dX5_bodyOf_38 : decode cX5_bodyOf 38 = .ok (.getstatic 45, 3) := by decide +kernel
theorem dX5_bodyOf_41 : decode cX5_bodyOf 41 = .ok (.arraylength, 1) := by decide +kernel
theorem dX5_bodyOf_42 : decode cX5_bodyOf 42 = .ok (.if_icmp .ge 12, 3) := by decide +kernel
theorem dX5_bodyOf_45 : decode cX5_bodyOf 45 = .ok (.getstatic 45, 3) := by decide +kernel
theorem dX5_bodyOf_48 : decode cX5_bodyOf 48 = .ok (.iload 4, 2) := by decide +kernel
theorem dX5_bodyOf_50 : decode cX5_bodyOf 50 = .ok (.iaload, 1) := by decide +kernel
theorem dX5_bodyOf_51 : decode cX5_bodyOf 51 = .ok (.goto 4, 3) := by decide +kernel
theorem dX5_bodyOf_54 : decode cX5_bodyOf 54 = .ok (.iconst 0, 1) := by decide +kernel
theorem dX5_bodyOf_55 : decode cX5_bodyOf 55 = .ok (.istore 5, 2) := by decide +kernel
theorem dX5_bodyOf_57 : decode cX5_bodyOf 57 = .ok (.iload 5, 2) := by decide +kernel
theorem dX5_bodyOf_59 : decode cX5_bodyOf 59 = .ok (.ifCond .eq 6, 3) := by decide +kernel
theorem dX5_bodyOf_62 : decode cX5_bodyOf 62 = .ok (.iload 5, 2) := by decide +kernel
theorem dX5_bodyOf_64 : decode cX5_bodyOf 64 = .ok (.ireturn, 1) := by decide +kernel
theorem dX5_bodyOf_65 : decode cX5_bodyOf 65 = .ok (.getstatic 41, 3) := by decide +kernel
theorem dX5_bodyOf_68 : decode cX5_bodyOf 68 = .ok (.iload_n 2, 1) := by decide +kernel
theorem dX5_bodyOf_69 : decode cX5_bodyOf 69 = .ok (.iaload, 1) := by decide +kernel
theorem dX5_bodyOf_70 : decode cX5_bodyOf 70 = .ok (.istore_n 2, 1) := by decide +kernel
theorem dX5_bodyOf_71 : decode cX5_bodyOf 71 = .ok (.iinc 3 1, 3) := by decide +kernel
theorem dX5_bodyOf_74 : decode cX5_bodyOf 74 = .ok (.goto (-70), 3) := by decide +kernel
theorem dX5_bodyOf_77 : decode cX5_bodyOf 77 = .ok (.iconst 0, 1) := by decide +kernel
theorem dX5_bodyOf_78 : decode cX5_bodyOf 78 = .ok (.ireturn, 1) := by decide +kernel
theorem dX5_say_0 : decode cX5_say 0 = .ok (.iload 4, 2) := by decide +kernel
theorem dX5_say_2 : decode cX5_say 2 = .ok (.bipush 30, 2) := by decide +kernel
theorem dX5_say_4 : decode cX5_say 4 = .ok (.if_icmp .le 5, 3) := by decide +kernel
theorem dX5_say_7 : decode cX5_say 7 = .ok (.iconst 0, 1) := by decide +kernel
theorem dX5_say_8 : decode cX5_say 8 = .ok (.ireturn, 1) := by decide +kernel
theorem dX5_say_9 : decode cX5_say 9 = .ok (.iload_n 1, 1) := by decide +kernel
theorem dX5_say_10 : decode cX5_say 10 = .ok (.iload_n 2, 1) := by decide +kernel
theorem dX5_say_11 : decode cX5_say 11 = .ok (.invokestatic 48, 3) := by decide +kernel
theorem dX5_say_14 : decode cX5_say 14 = .ok (.istore 5, 2) := by decide +kernel
theorem dX5_say_16 : decode cX5_say 16 = .ok (.iload 4, 2) := by decide +kernel
theorem dX5_say_18 : decode cX5_say 18 = .ok (.iconst 1, 1) := by decide +kernel
theorem dX5_say_19 : decode cX5_say 19 = .ok (.iadd, 1) := by decide +kernel
theorem dX5_say_20 : decode cX5_say 20 = .ok (.istore 6, 2) := by decide +kernel
theorem dX5_say_22 : decode cX5_say 22 = .ok (.aload_n 0, 1) := by decide +kernel
theorem dX5_say_23 : decode cX5_say 23 = .ok (.getfield 14, 3) := by decide +kernel
theorem dX5_say_26 : decode cX5_say 26 = .ok (.iload 5, 2) := by decide +kernel
theorem dX5_say_28 : decode cX5_say 28 = .ok (.invokevirtual 52, 3) := by decide +kernel
theorem dX5_say_31 : decode cX5_say 31 = .ok (.pop, 1) := by decide +kernel
theorem dX5_say_32 : decode cX5_say 32 = .ok (.iload 5, 2) := by decide +kernel
theorem dX5_say_34 : decode cX5_say 34 = .ok (.lookupswitch 272 #[(10, 98), (11, 105), (12, 120), (13, 127), (20, 153), (30, 165), (40, 176), (50, 199), (60, 222), (61, 237), (70, 260)], 98) := by decide +kernel
theorem dX5_say_132 : decode cX5_say 132 = .ok (.iload_n 3, 1) := by decide +kernel
theorem dX5_say_133 : decode cX5_say 133 = .ok (.aload_n 0, 1) := by decide +kernel
theorem dX5_say_134 : decode cX5_say 134 = .ok (.getfield 34, 3) := by decide +kernel
theorem dX5_say_137 : decode cX5_say 137 = .ok (.iadd, 1) := by decide +kernel
theorem dX5_say_138 : decode cX5_say 138 = .ok (.ireturn, 1) := by decide +kernel
theorem dX5_say_139 : decode cX5_say 139 = .ok (.aload_n 0, 1) := by decide +kernel
theorem dX5_say_140 : decode cX5_say 140 = .ok (.aload_n 0, 1) := by decide +kernel
theorem dX5_say_141 : decode cX5_say 141 = .ok (.getfield 29, 3) := by decide +kernel
theorem dX5_say_144 : decode cX5_say 144 = .ok (.iconst 0, 1) := by decide +kernel
theorem dX5_say_145 : decode cX5_say 145 = .ok (.iload_n 3, 1) := by decide +kernel
theorem dX5_say_146 : decode cX5_say 146 = .ok (.iload 6, 2) := by decide +kernel
theorem dX5_say_148 : decode cX5_say 148 = .ok (.invokevirtual 37, 3) := by decide +kernel
theorem dX5_say_151 : decode cX5_say 151 = .ok (.iconst 2, 1) := by decide +kernel
theorem dX5_say_152 : decode cX5_say 152 = .ok (.imul, 1) := by decide +kernel
theorem dX5_say_153 : decode cX5_say 153 = .ok (.ireturn, 1) := by decide +kernel
theorem dX5_say_154 : decode cX5_say 154 = .ok (.iload_n 3, 1) := by decide +kernel
theorem dX5_say_155 : decode cX5_say 155 = .ok (.aload_n 0, 1) := by decide +kernel
theorem dX5_say_156 : decode cX5_say 156 = .ok (.getfield 33, 3) := by decide +kernel
theorem dX5_say_159 : decode cX5_say 159 = .ok (.isub, 1) := by decide +kernel
theorem dX5_say_160 : decode cX5_say 160 = .ok (.ireturn, 1) := by decide +kernel
theorem dX5_say_161 : decode cX5_say 161 = .ok (.aload_n 0, 1) := by decide +kernel
theorem dX5_say_162 : decode cX5_say 162 = .ok (.aload_n 0, 1) := by decide +kernel
theorem dX5_say_163 : decode cX5_say 163 = .ok (.getfield 29, 3) := by decide +kernel
theorem dX5_say_166 : decode cX5_say 166 = .ok (.iconst 1, 1) := by decide +kernel
theorem dX5_say_167 : decode cX5_say 167 = .ok (.iload_n 3, 1) := by decide +kernel
theorem dX5_say_168 : decode cX5_say 168 = .ok (.iload 6, 2) := by decide +kernel
theorem dX5_say_170 : decode cX5_say 170 = .ok (.invokevirtual 37, 3) := by decide +kernel
theorem dX5_say_173 : decode cX5_say 173 = .ok (.aload_n 0, 1) := by decide +kernel
theorem dX5_say_174 : decode cX5_say 174 = .ok (.aload_n 0, 1) := by decide +kernel
theorem dX5_say_175 : decode cX5_say 175 = .ok (.getfield 29, 3) := by decide +kernel
theorem dX5_say_178 : decode cX5_say 178 = .ok (.iconst 2, 1) := by decide +kernel
theorem dX5_say_179 : decode cX5_say 179 = .ok (.iload_n 3, 1) := by decide +kernel
theorem dX5_say_180 : decode cX5_say 180 = .ok (.iload 6, 2) := by decide +kernel
theorem dX5_say_182 : decode cX5_say 182 = .ok (.invokevirtual 37, 3) := by decide +kernel
theorem dX5_say_185 : decode cX5_say 185 = .ok (.ixor, 1) := by decide +kernel
theorem dX5_say_186 : decode cX5_say 186 = .ok (.ireturn, 1) := by decide +kernel
theorem dX5_say_187 : decode cX5_say 187 = .ok (.aload_n 0, 1) := by decide +kernel
theorem dX5_say_188 : decode cX5_say 188 = .ok (.iconst 0, 1) := by decide +kernel
theorem dX5_say_189 : decode cX5_say 189 = .ok (.iconst 0, 1) := by decide +kernel
theorem dX5_say_190 : decode cX5_say 190 = .ok (.iload_n 3, 1) := by decide +kernel
theorem dX5_say_191 : decode cX5_say 191 = .ok (.iload 6, 2) := by decide +kernel
theorem dX5_say_193 : decode cX5_say 193 = .ok (.invokevirtual 37, 3) := by decide +kernel
theorem dX5_say_196 : decode cX5_say 196 = .ok (.iconst 3, 1) := by decide +kernel
theorem dX5_say_197 : decode cX5_say 197 = .ok (.imul, 1) := by decide +kernel
theorem dX5_say_198 : decode cX5_say 198 = .ok (.ireturn, 1) := by decide +kernel
theorem dX5_say_199 : decode cX5_say 199 = .ok (.aload_n 0, 1) := by decide +kernel
theorem dX5_say_200 : decode cX5_say 200 = .ok (.iconst 0, 1) := by decide +kernel
theorem dX5_say_201 : decode cX5_say 201 = .ok (.iconst 2, 1) := by decide +kernel
theorem dX5_say_202 : decode cX5_say 202 = .ok (.iload_n 3, 1) := by decide +kernel
theorem dX5_say_203 : decode cX5_say 203 = .ok (.iload 6, 2) := by decide +kernel
theorem dX5_say_205 : decode cX5_say 205 = .ok (.invokevirtual 37, 3) := by decide +kernel
theorem dX5_say_208 : decode cX5_say 208 = .ok (.ineg, 1) := by decide +kernel
theorem dX5_say_209 : decode cX5_say 209 = .ok (.ireturn, 1) := by decide +kernel
theorem dX5_say_210 : decode cX5_say 210 = .ok (.aload_n 0, 1) := by decide +kernel
theorem dX5_say_211 : decode cX5_say 211 = .ok (.iconst 0, 1) := by decide +kernel
theorem dX5_say_212 : decode cX5_say 212 = .ok (.iconst 1, 1) := by decide +kernel
theorem dX5_say_213 : decode cX5_say 213 = .ok (.iload_n 3, 1) := by decide +kernel
theorem dX5_say_214 : decode cX5_say 214 = .ok (.iload 6, 2) := by decide +kernel
theorem dX5_say_216 : decode cX5_say 216 = .ok (.invokevirtual 37, 3) := by decide +kernel
theorem dX5_say_219 : decode cX5_say 219 = .ok (.aload_n 0, 1) := by decide +kernel
theorem dX5_say_220 : decode cX5_say 220 = .ok (.aload_n 0, 1) := by decide +kernel
theorem dX5_say_221 : decode cX5_say 221 = .ok (.getfield 29, 3) := by decide +kernel
theorem dX5_say_224 : decode cX5_say 224 = .ok (.iconst 2, 1) := by decide +kernel
theorem dX5_say_225 : decode cX5_say 225 = .ok (.iconst 1, 1) := by decide +kernel
theorem dX5_say_226 : decode cX5_say 226 = .ok (.iload 6, 2) := by decide +kernel
theorem dX5_say_228 : decode cX5_say 228 = .ok (.invokevirtual 37, 3) := by decide +kernel
theorem dX5_say_231 : decode cX5_say 231 = .ok (.isub, 1) := by decide +kernel
theorem dX5_say_232 : decode cX5_say 232 = .ok (.ireturn, 1) := by decide +kernel
theorem dX5_say_233 : decode cX5_say 233 = .ok (.aload_n 0, 1) := by decide +kernel
theorem dX5_say_234 : decode cX5_say 234 = .ok (.iconst 1, 1) := by decide +kernel
theorem dX5_say_235 : decode cX5_say 235 = .ok (.iconst 3, 1) := by decide +kernel
theorem dX5_say_236 : decode cX5_say 236 = .ok (.iload_n 3, 1) := by decide +kernel
theorem dX5_say_237 : decode cX5_say 237 = .ok (.iload 6, 2) := by decide +kernel
theorem dX5_say_239 : decode cX5_say 239 = .ok (.invokevirtual 37, 3) := by decide +kernel
theorem dX5_say_242 : decode cX5_say 242 = .ok (.aload_n 0, 1) := by decide +kernel
theorem dX5_say_243 : decode cX5_say 243 = .ok (.aload_n 0, 1) := by decide +kernel
theorem dX5_say_244 : decode cX5_say 244 = .ok (.getfield 29, 3) := by decide +kernel
theorem dX5_say_247 : decode cX5_say 247 = .ok (.iconst 0, 1) := by decide +kernel
theorem dX5_say_248 : decode cX5_say 248 = .ok (.iconst 2, 1) := by decide +kernel
theorem dX5_say_249 : decode cX5_say 249 = .ok (.iload 6, 2) := by decide +kernel
theorem dX5_say_251 : decode cX5_say 251 = .ok (.invokevirtual 37, 3) := by decide +kernel
theorem dX5_say_254 : decode cX5_say 254 = .ok (.isub, 1) := by decide +kernel
theorem dX5_say_255 : decode cX5_say 255 = .ok (.ireturn, 1) := by decide +kernel
theorem dX5_say_256 : decode cX5_say 256 = .ok (.aload_n 0, 1) := by decide +kernel
theorem dX5_say_257 : decode cX5_say 257 = .ok (.iconst 2, 1) := by decide +kernel
theorem dX5_say_258 : decode cX5_say 258 = .ok (.iconst 2, 1) := by decide +kernel
theorem dX5_say_259 : decode cX5_say 259 = .ok (.iload_n 3, 1) := by decide +kernel
theorem dX5_say_260 : decode cX5_say 260 = .ok (.iload 6, 2) := by decide +kernel
theorem dX5_say_262 : decode cX5_say 262 = .ok (.invokevirtual 37, 3) := by decide +kernel
theorem dX5_say_265 : decode cX5_say 265 = .ok (.aload_n 0, 1) := by decide +kernel
theorem dX5_say_266 : decode cX5_say 266 = .ok (.getfield 34, 3) := by decide +kernel
theorem dX5_say_269 : decode cX5_say 269 = .ok (.ixor, 1) := by decide +kernel
theorem dX5_say_270 : decode cX5_say 270 = .ok (.ireturn, 1) := by decide +kernel
theorem dX5_say_271 : decode cX5_say 271 = .ok (.aload_n 0, 1) := by decide +kernel
theorem dX5_say_272 : decode cX5_say 272 = .ok (.aload_n 0, 1) := by decide +kernel
theorem dX5_say_273 : decode cX5_say 273 = .ok (.getfield 29, 3) := by decide +kernel
theorem dX5_say_276 : decode cX5_say 276 = .ok (.iconst 1, 1) := by decide +kernel
theorem dX5_say_277 : decode cX5_say 277 = .ok (.iload_n 3, 1) := by decide +kernel
theorem dX5_say_278 : decode cX5_say 278 = .ok (.iload 6, 2) := by decide +kernel
theorem dX5_say_280 : decode cX5_say 280 = .ok (.invokevirtual 37, 3) := by decide +kernel
theorem dX5_say_283 : decode cX5_say 283 = .ok (.aload_n 0, 1) := by decide +kernel
theorem dX5_say_284 : decode cX5_say 284 = .ok (.iconst 2, 1) := by decide +kernel
theorem dX5_say_285 : decode cX5_say 285 = .ok (.iconst 3, 1) := by decide +kernel
theorem dX5_say_286 : decode cX5_say 286 = .ok (.iload_n 3, 1) := by decide +kernel
theorem dX5_say_287 : decode cX5_say 287 = .ok (.iload 6, 2) := by decide +kernel
theorem dX5_say_289 : decode cX5_say 289 = .ok (.invokevirtual 37, 3) := by decide +kernel
theorem dX5_say_292 : decode cX5_say 292 = .ok (.isub, 1) := by decide +kernel
theorem dX5_say_293 : decode cX5_say 293 = .ok (.ireturn, 1) := by decide +kernel
theorem dX5_say_294 : decode cX5_say 294 = .ok (.aload_n 0, 1) := by decide +kernel
theorem dX5_say_295 : decode cX5_say 295 = .ok (.iconst 3, 1) := by decide +kernel
theorem dX5_say_296 : decode cX5_say 296 = .ok (.iconst 1, 1) := by decide +kernel
theorem dX5_say_297 : decode cX5_say 297 = .ok (.iload_n 3, 1) := by decide +kernel
theorem dX5_say_298 : decode cX5_say 298 = .ok (.iconst 1, 1) := by decide +kernel
theorem dX5_say_299 : decode cX5_say 299 = .ok (.iadd, 1) := by decide +kernel
theorem dX5_say_300 : decode cX5_say 300 = .ok (.iload 6, 2) := by decide +kernel
theorem dX5_say_302 : decode cX5_say 302 = .ok (.invokevirtual 37, 3) := by decide +kernel
theorem dX5_say_305 : decode cX5_say 305 = .ok (.ireturn, 1) := by decide +kernel
theorem dX5_say_306 : decode cX5_say 306 = .ok (.iconst 0, 1) := by decide +kernel
theorem dX5_say_307 : decode cX5_say 307 = .ok (.ireturn, 1) := by decide +kernel
theorem dX6_init_0 : decode cX6_init 0 = .ok (.aload_n 0, 1) := by decide +kernel
theorem dX6_init_1 : decode cX6_init 1 = .ok (.invokespecial 3, 3) := by decide +kernel
theorem dX6_init_4 : decode cX6_init 4 = .ok (.return_, 1) := by decide +kernel
theorem dX6_copyFrom_0 : decode cX6_copyFrom 0 = .ok (.aload_n 0, 1) := by decide +kernel
theorem dX6_copyFrom_1 : decode cX6_copyFrom 1 = .ok (.aload_n 1, 1) := by decide +kernel
theorem dX6_copyFrom_2 : decode cX6_copyFrom 2 = .ok (.getfield 9, 3) := by decide +kernel
theorem dX6_copyFrom_5 : decode cX6_copyFrom 5 = .ok (.putfield 9, 3) := by decide +kernel
theorem dX6_copyFrom_8 : decode cX6_copyFrom 8 = .ok (.aload_n 0, 1) := by decide +kernel
theorem dX6_copyFrom_9 : decode cX6_copyFrom 9 = .ok (.aload_n 1, 1) := by decide +kernel
theorem dX6_copyFrom_10 : decode cX6_copyFrom 10 = .ok (.getfield 15, 3) := by decide +kernel
theorem dX6_copyFrom_13 : decode cX6_copyFrom 13 = .ok (.putfield 15, 3) := by decide +kernel
theorem dX6_copyFrom_16 : decode cX6_copyFrom 16 = .ok (.aload_n 0, 1) := by decide +kernel
theorem dX6_copyFrom_17 : decode cX6_copyFrom 17 = .ok (.aload_n 1, 1) := by decide +kernel
theorem dX6_copyFrom_18 : decode cX6_copyFrom 18 = .ok (.getfield 18, 3) := by decide +kernel
theorem dX6_copyFrom_21 : decode cX6_copyFrom 21 = .ok (.putfield 18, 3) := by decide +kernel
theorem dX6_copyFrom_24 : decode cX6_copyFrom 24 = .ok (.aload_n 0, 1) := by decide +kernel
theorem dX6_copyFrom_25 : decode cX6_copyFrom 25 = .ok (.aload_n 1, 1) := by decide +kernel
theorem dX6_copyFrom_26 : decode cX6_copyFrom 26 = .ok (.getfield 21, 3) := by decide +kernel
theorem dX6_copyFrom_29 : decode cX6_copyFrom 29 = .ok (.putfield 21, 3) := by decide +kernel
theorem dX6_copyFrom_32 : decode cX6_copyFrom 32 = .ok (.aload_n 0, 1) := by decide +kernel
theorem dX6_copyFrom_33 : decode cX6_copyFrom 33 = .ok (.aload_n 1, 1) := by decide +kernel
theorem dX6_copyFrom_34 : decode cX6_copyFrom 34 = .ok (.getfield 24, 3) := by decide +kernel
theorem dX6_copyFrom_37 : decode cX6_copyFrom 37 = .ok (.putfield 24, 3) := by decide +kernel
theorem dX6_copyFrom_40 : decode cX6_copyFrom 40 = .ok (.return_, 1) := by decide +kernel
theorem dX6_looksIn_0 : decode cX6_looksIn 0 = .ok (.aload_n 0, 1) := by decide +kernel
theorem dX6_looksIn_1 : decode cX6_looksIn 1 = .ok (.getfield 9, 3) := by decide +kernel
theorem dX6_looksIn_4 : decode cX6_looksIn 4 = .ok (.tableswitch 99 1 6 #[40, 64, 87, 40, 85, 87], 40) := by decide +kernel
theorem dX6_looksIn_44 : decode cX6_looksIn 44 = .ok (.aload_n 0, 1) := by decide +kernel
theorem dX6_looksIn_45 : decode cX6_looksIn 45 = .ok (.getfield 15, 3) := by decide +kernel
theorem dX6_looksIn_48 : decode cX6_looksIn 48 = .ok (.iconst 2, 1) := by decide +kernel
theorem dX6_looksIn_49 : decode cX6_looksIn 49 = .ok (.if_icmp .gt 13, 3) := by decide +kernel
theorem dX6_looksIn_52 : decode cX6_looksIn 52 = .ok (.iload_n 1, 1) := by decide +kernel
theorem dX6_looksIn_53 : decode cX6_looksIn 53 = .ok (.iconst 3, 1) := by decide +kernel
theorem dX6_looksIn_54 : decode cX6_looksIn 54 = .ok (.irem, 1) := by decide +kernel
theorem dX6_looksIn_55 : decode cX6_looksIn 55 = .ok (.aload_n 0, 1) := by decide +kernel
theorem dX6_looksIn_56 : decode cX6_looksIn 56 = .ok (.getfield 15, 3) := by decide +kernel
theorem dX6_looksIn_59 : decode cX6_looksIn 59 = .ok (.if_icmp .ne 7, 3) := by decide +kernel
theorem dX6_looksIn_62 : decode cX6_looksIn 62 = .ok (.iconst 1, 1) := by decide +kernel
theorem dX6_looksIn_63 : decode cX6_looksIn 63 = .ok (.goto 4, 3) := by decide +kernel
theorem dX6_looksIn_66 : decode cX6_looksIn 66 = .ok (.iconst 0, 1) := by decide +kernel
theorem dX6_looksIn_67 : decode cX6_looksIn 67 = .ok (.ireturn, 1) := by decide +kernel
theorem dX6_looksIn_68 : decode cX6_looksIn 68 = .ok (.aload_n 0, 1) := by decide +kernel
theorem dX6_looksIn_69 : decode cX6_looksIn 69 = .ok (.getfield 18, 3) := by decide +kernel
theorem dX6_looksIn_72 : decode cX6_looksIn 72 = .ok (.iload_n 1, 1) := by decide +kernel
theorem dX6_looksIn_73 : decode cX6_looksIn 73 = .ok (.bipush 16, 2) := by decide +kernel
theorem dX6_looksIn_75 : decode cX6_looksIn 75 = .ok (.irem, 1) := by decide +kernel
theorem dX6_looksIn_76 : decode cX6_looksIn 76 = .ok (.invokestatic 28, 3) := by decide +kernel
theorem dX6_looksIn_79 : decode cX6_looksIn 79 = .ok (.iand, 1) := by decide +kernel
theorem dX6_looksIn_80 : decode cX6_looksIn 80 = .ok (.ifCond .eq 7, 3) := by decide +kernel
theorem dX6_looksIn_83 : decode cX6_looksIn 83 = .ok (.iconst 1, 1) := by decide +kernel
theorem dX6_looksIn_84 : decode cX6_looksIn 84 = .ok (.goto 4, 3) := by decide +kernel
theorem dX6_looksIn_87 : decode cX6_looksIn 87 = .ok (.iconst 0, 1) := by decide +kernel
theorem dX6_looksIn_88 : decode cX6_looksIn 88 = .ok (.ireturn, 1) := by decide +kernel
theorem dX6_looksIn_89 : decode cX6_looksIn 89 = .ok (.iconst 0, 1) := by decide +kernel
theorem dX6_looksIn_90 : decode cX6_looksIn 90 = .ok (.ireturn, 1) := by decide +kernel
theorem dX6_looksIn_91 : decode cX6_looksIn 91 = .ok (.iload_n 1, 1) := by decide +kernel
theorem dX6_looksIn_92 : decode cX6_looksIn 92 = .ok (.iconst 2, 1) := by decide +kernel
theorem dX6_looksIn_93 : decode cX6_looksIn 93 = .ok (.irem, 1) := by decide +kernel
theorem dX6_looksIn_94 : decode cX6_looksIn 94 = .ok (.ifCond .ne 7, 3) := by decide +kernel
theorem dX6_looksIn_97 : decode cX6_looksIn 97 = .ok (.iconst 1, 1) := by decide +kernel
theorem dX6_looksIn_98 : decode cX6_looksIn 98 = .ok (.goto 4, 3) := by decide +kernel
theorem dX6_looksIn_101 : decode cX6_looksIn 101 = .ok (.iconst 0, 1) := by decide +kernel
theorem dX6_looksIn_102 : decode cX6_looksIn 102 = .ok (.ireturn, 1) := by decide +kernel
theorem dX6_looksIn_103 : decode cX6_looksIn 103 = .ok (.iconst 1, 1) := by decide +kernel
theorem dX6_looksIn_104 : decode cX6_looksIn 104 = .ok (.ireturn, 1) := by decide +kernel
theorem dX6_earn_0 : decode cX6_earn 0 = .ok (.aload_n 0, 1) := by decide +kernel
theorem dX6_earn_1 : decode cX6_earn 1 = .ok (.getfield 18, 3) := by decide +kernel
theorem dX6_earn_4 : decode cX6_earn 4 = .ok (.iload_n 2, 1) := by decide +kernel
theorem dX6_earn_5 : decode cX6_earn 5 = .ok (.iand, 1) := by decide +kernel
theorem dX6_earn_6 : decode cX6_earn 6 = .ok (.istore_n 3, 1) := by decide +kernel
theorem dX6_earn_7 : decode cX6_earn 7 = .ok (.iload_n 3, 1) := by decide +kernel
theorem dX6_earn_8 : decode cX6_earn 8 = .ok (.ifCond .eq 11, 3) := by decide +kernel
theorem dX6_earn_11 : decode cX6_earn 11 = .ok (.aload_n 0, 1) := by decide +kernel
theorem dX6_earn_12 : decode cX6_earn 12 = .ok (.iload_n 1, 1) := by decide +kernel
theorem dX6_earn_13 : decode cX6_earn 13 = .ok (.invokevirtual 32, 3) := by decide +kernel
theorem dX6_earn_16 : decode cX6_earn 16 = .ok (.ifCond .ne 4, 3) := by decide +kernel
theorem dX6_earn_19 : decode cX6_earn 19 = .ok (.return_, 1) := by decide +kernel
theorem dX6_earn_20 : decode cX6_earn 20 = .ok (.aload_n 0, 1) := by decide +kernel
theorem dX6_earn_21 : decode cX6_earn 21 = .ok (.sipush 9999, 3) := by decide +kernel
theorem dX6_earn_24 : decode cX6_earn 24 = .ok (.aload_n 0, 1) := by decide +kernel
theorem dX6_earn_25 : decode cX6_earn 25 = .ok (.getfield 21, 3) := by decide +kernel
theorem dX6_earn_28 : decode cX6_earn 28 = .ok (.aload_n 0, 1) := by decide +kernel
theorem dX6_earn_29 : decode cX6_earn 29 = .ok (.iload_n 3, 1) := by decide +kernel
theorem dX6_earn_30 : decode cX6_earn 30 = .ok (.invokestatic 36, 3) := by decide +kernel
theorem dX6_earn_33 : decode cX6_earn 33 = .ok (.invokevirtual 41, 3) := by decide +kernel
theorem dX6_earn_36 : decode cX6_earn 36 = .ok (.iadd, 1) := by decide +kernel
theorem dX6_earn_37 : decode cX6_earn 37 = .ok (.invokestatic 44, 3) := by decide +kernel
theorem dX6_earn_40 : decode cX6_earn 40 = .ok (.putfield 21, 3) := by decide +kernel
theorem dX6_earn_43 : decode cX6_earn 43 = .ok (.return_, 1) := by decide +kernel
theorem dX6_wages_0 : decode cX6_wages 0 = .ok (.aload_n 0, 1) := by decide +kernel
theorem dX6_wages_1 : decode cX6_wages 1 = .ok (.getfield 9, 3) := by decide +kernel
theorem dX6_wages_4 : decode cX6_wages 4 = .ok (.tableswitch 49 1 6 #[40, 49, 43, 40, 47, 43], 40) := by decide +kernel
theorem dX6_wages_44 : decode cX6_wages 44 = .ok (.bipush 9, 2) := by decide +kernel
theorem dX6_wages_46 : decode cX6_wages 46 = .ok (.ireturn, 1) := by decide +kernel
theorem dX6_wages_47 : decode cX6_wages 47 = .ok (.iconst 2, 1) := by decide +kernel
theorem dX6_wages_48 : decode cX6_wages 48 = .ok (.iload_n 1, 1) := by decide +kernel
theorem dX6_wages_49 : decode cX6_wages 49 = .ok (.imul, 1) := by decide +kernel
theorem dX6_wages_50 : decode cX6_wages 50 = .ok (.ireturn, 1) := by decide +kernel
theorem dX6_wages_51 : decode cX6_wages 51 = .ok (.iconst 0, 1) := by decide +kernel
theorem dX6_wages_52 : decode cX6_wages 52 = .ok (.ireturn, 1) := by decide +kernel
theorem dX6_wages_53 : decode cX6_wages 53 = .ok (.iconst 5, 1) := by decide +kernel
theorem dX6_wages_54 : decode cX6_wages 54 = .ok (.ireturn, 1) := by decide +kernel
theorem dX6_owesBy_0 : decode cX6_owesBy 0 = .ok (.aload_n 0, 1) := by decide +kernel
theorem dX6_owesBy_1 : decode cX6_owesBy 1 = .ok (.getfield 9, 3) := by decide +kernel
theorem dX6_owesBy_4 : decode cX6_owesBy 4 = .ok (.tableswitch 86 1 6 #[40, 56, 63, 44, 56, 70], 40) := by decide +kernel
theorem dX6_owesBy_44 : decode cX6_owesBy 44 = .ok (.iload_n 1, 1) := by decide +kernel
theorem dX6_owesBy_45 : decode cX6_owesBy 45 = .ok (.iconst 2, 1) := by decide +kernel
theorem dX6_owesBy_46 : decode cX6_owesBy 46 = .ok (.idiv, 1) := by decide +kernel
theorem dX6_owesBy_47 : decode cX6_owesBy 47 = .ok (.ireturn, 1) := by decide +kernel
theorem dX6_owesBy_48 : decode cX6_owesBy 48 = .ok (.iload_n 1, 1) := by decide +kernel
theorem dX6_owesBy_49 : decode cX6_owesBy 49 = .ok (.iconst 2, 1) := by decide +kernel
theorem dX6_owesBy_50 : decode cX6_owesBy 50 = .ok (.idiv, 1) := by decide +kernel
theorem dX6_owesBy_51 : decode cX6_owesBy 51 = .ok (.iconst 1, 1) := by decide +kernel
theorem dX6_owesBy_52 : decode cX6_owesBy 52 = .ok (.iconst 1, 1) := by decide +kernel
theorem dX6_owesBy_53 : decode cX6_owesBy 53 = .ok (.iload_n 2, 1) := by decide +kernel
theorem dX6_owesBy_54 : decode cX6_owesBy 54 = .ok (.iadd, 1) := by decide +kernel
theorem dX6_owesBy_55 : decode cX6_owesBy 55 = .ok (.invokestatic 50, 3) := by decide +kernel
theorem dX6_owesBy_58 : decode cX6_owesBy 58 = .ok (.idiv, 1) := by decide +kernel
theorem dX6_owesBy_59 : decode cX6_owesBy 59 = .ok (.ireturn, 1) := by decide +kernel
theorem dX6_owesBy_60 : decode cX6_owesBy 60 = .ok (.iload_n 1, 1) := by decide +kernel
theorem dX6_owesBy_61 : decode cX6_owesBy 61 = .ok (.aload_n 0, 1) := by decide +kernel
theorem dX6_owesBy_62 : decode cX6_owesBy 62 = .ok (.getfield 15, 3) := by decide +kernel
theorem dX6_owesBy_65 : decode cX6_owesBy 65 = .ok (.iadd, 1) := by decide +kernel
theorem dX6_owesBy_66 : decode cX6_owesBy 66 = .ok (.ireturn, 1) := by decide +kernel
theorem dX6_owesBy_67 : decode cX6_owesBy 67 = .ok (.iload_n 1, 1) := by decide +kernel
theorem dX6_owesBy_68 : decode cX6_owesBy 68 = .ok (.iload_n 1, 1) := by decide +kernel
theorem dX6_owesBy_69 : decode cX6_owesBy 69 = .ok (.bipush 10, 2) := by decide +kernel
theorem dX6_owesBy_71 : decode cX6_owesBy 71 = .ok (.idiv, 1) := by decide +kernel
theorem dX6_owesBy_72 : decode cX6_owesBy 72 = .ok (.isub, 1) := by decide +kernel
theorem dX6_owesBy_73 : decode cX6_owesBy 73 = .ok (.ireturn, 1) := by decide +kernel
theorem dX6_owesBy_74 : decode cX6_owesBy 74 = .ok (.iconst 0, 1) := by decide +kernel
theorem dX6_owesBy_75 : decode cX6_owesBy 75 = .ok (.iload_n 1, 1) := by decide +kernel
theorem dX6_owesBy_76 : decode cX6_owesBy 76 = .ok (.iload_n 1, 1) := by decide +kernel
theorem dX6_owesBy_77 : decode cX6_owesBy 77 = .ok (.bipush 10, 2) := by decide +kernel
theorem dX6_owesBy_79 : decode cX6_owesBy 79 = .ok (.idiv, 1) := by decide +kernel
theorem dX6_owesBy_80 : decode cX6_owesBy 80 = .ok (.isub, 1) := by decide +kernel
theorem dX6_owesBy_81 : decode cX6_owesBy 81 = .ok (.aload_n 0, 1) := by decide +kernel
theorem dX6_owesBy_82 : decode cX6_owesBy 82 = .ok (.getfield 15, 3) := by decide +kernel
theorem dX6_owesBy_85 : decode cX6_owesBy 85 = .ok (.isub, 1) := by decide +kernel
theorem dX6_owesBy_86 : decode cX6_owesBy 86 = .ok (.invokestatic 50, 3) := by decide +kernel
theorem dX6_owesBy_89 : decode cX6_owesBy 89 = .ok (.ireturn, 1) := by decide +kernel
theorem dX6_owesBy_90 : decode cX6_owesBy 90 = .ok (.iload_n 1, 1) := by decide +kernel
theorem dX6_owesBy_91 : decode cX6_owesBy 91 = .ok (.ireturn, 1) := by decide +kernel
theorem dX6_pay_0 : decode cX6_pay 0 = .ok (.aload_n 0, 1) := by decide +kernel
theorem dX6_pay_1 : decode cX6_pay 1 = .ok (.sipush (-9999), 3) := by decide +kernel
theorem dX6_pay_4 : decode cX6_pay 4 = .ok (.aload_n 0, 1) := by decide +kernel
theorem dX6_pay_5 : decode cX6_pay 5 = .ok (.getfield 21, 3) := by decide +kernel
theorem dX6_pay_8 : decode cX6_pay 8 = .ok (.iload_n 1, 1) := by decide +kernel
theorem dX6_pay_9 : decode cX6_pay 9 = .ok (.isub, 1) := by decide +kernel
theorem dX6_pay_10 : decode cX6_pay 10 = .ok (.invokestatic 50, 3) := by decide +kernel
theorem dX6_pay_13 : decode cX6_pay 13 = .ok (.putfield 21, 3) := by decide +kernel
theorem dX6_pay_16 : decode cX6_pay 16 = .ok (.aload_n 0, 1) := by decide +kernel
theorem dX6_pay_17 : decode cX6_pay 17 = .ok (.getfield 21, 3) := by decide +kernel
theorem dX6_pay_20 : decode cX6_pay 20 = .ok (.ifCond .ge 13, 3) := by decide +kernel
theorem dX6_pay_23 : decode cX6_pay 23 = .ok (.aload_n 0, 1) := by decide +kernel
theorem dX6_pay_24 : decode cX6_pay 24 = .ok (.iconst 1, 1) := by decide +kernel
theorem dX6_pay_25 : decode cX6_pay 25 = .ok (.putfield 24, 3) := by decide +kernel
theorem dX6_pay_28 : decode cX6_pay 28 = .ok (.aload_n 0, 1) := by decide +kernel
theorem dX6_pay_29 : decode cX6_pay 29 = .ok (.iconst 0, 1) := by decide +kernel
theorem dX6_pay_30 : decode cX6_pay 30 = .ok (.putfield 18, 3) := by decide +kernel
theorem dX6_pay_33 : decode cX6_pay 33 = .ok (.return_, 1) := by decide +kernel
theorem dX7_init_0 : decode cX7_init 0 = .ok (.aload_n 0, 1) := by decide +kernel
theorem dX7_init_1 : decode cX7_init 1 = .ok (.invokespecial 3, 3) := by decide +kernel
theorem dX7_init_4 : decode cX7_init 4 = .ok (.aload_n 0, 1) := by decide +kernel
theorem dX7_init_5 : decode cX7_init 5 = .ok (.new 9, 3) := by decide +kernel
theorem dX7_init_8 : decode cX7_init 8 = .ok (.dup, 1) := by decide +kernel
theorem dX7_init_9 : decode cX7_init 9 = .ok (.bipush 6, 2) := by decide +kernel
theorem dX7_init_11 : decode cX7_init 11 = .ok (.invokespecial 11, 3) := by decide +kernel
theorem dX7_init_14 : decode cX7_init 14 = .ok (.putfield 14, 3) := by decide +kernel
theorem dX7_init_17 : decode cX7_init 17 = .ok (.return_, 1) := by decide +kernel
theorem dX7_mostFrom_0 : decode cX7_mostFrom 0 = .ok (.iconst 0, 1) := by decide +kernel
theorem dX7_mostFrom_1 : decode cX7_mostFrom 1 = .ok (.aload_n 0, 1) := by decide +kernel
theorem dX7_mostFrom_2 : decode cX7_mostFrom 2 = .ok (.getfield 14, 3) := by decide +kernel
theorem dX7_mostFrom_5 : decode cX7_mostFrom 5 = .ok (.getfield 20, 3) := by decide +kernel
theorem dX7_mostFrom_8 : decode cX7_mostFrom 8 = .ok (.iload_n 1, 1) := by decide +kernel
theorem dX7_mostFrom_9 : decode cX7_mostFrom 9 = .ok (.isub, 1) := by decide +kernel
theorem dX7_mostFrom_10 : decode cX7_mostFrom 10 = .ok (.invokestatic 24, 3) := by decide +kernel
theorem dX7_mostFrom_13 : decode cX7_mostFrom 13 = .ok (.istore_n 3, 1) := by decide +kernel
theorem dX7_mostFrom_14 : decode cX7_mostFrom 14 = .ok (.iload_n 3, 1) := by decide +kernel
theorem dX7_mostFrom_15 : decode cX7_mostFrom 15 = .ok (.istore 4, 2) := by decide +kernel
theorem dX7_mostFrom_17 : decode cX7_mostFrom 17 = .ok (.iconst 0, 1) := by decide +kernel
theorem dX7_mostFrom_18 : decode cX7_mostFrom 18 = .ok (.istore 5, 2) := by decide +kernel
theorem dX7_mostFrom_20 : decode cX7_mostFrom 20 = .ok (.iload 5, 2) := by decide +kernel
theorem dX7_mostFrom_22 : decode cX7_mostFrom 22 = .ok (.iconst 1, 1) := by decide +kernel
theorem dX7_mostFrom_23 : decode cX7_mostFrom 23 = .ok (.iload_n 3, 1) := by decide +kernel
theorem dX7_mostFrom_24 : decode cX7_mostFrom 24 = .ok (.ishl, 1) := by decide +kernel
theorem dX7_mostFrom_25 : decode cX7_mostFrom 25 = .ok (.if_icmp .ge 43, 3) := by decide +kernel
theorem dX7_mostFrom_28 : decode cX7_mostFrom 28 = .ok (.aload_n 0, 1) := by decide +kernel
theorem dX7_mostFrom_29 : decode cX7_mostFrom 29 = .ok (.iload 5, 2) := by decide +kernel
theorem dX7_mostFrom_31 : decode cX7_mostFrom 31 = .ok (.iload_n 1, 1) := by decide +kernel
theorem dX7_mostFrom_32 : decode cX7_mostFrom 32 = .ok (.ishl, 1) := by decide +kernel
theorem dX7_mostFrom_33 : decode cX7_mostFrom 33 = .ok (.invokevirtual 30, 3) := by decide +kernel
theorem dX7_mostFrom_36 : decode cX7_mostFrom 36 = .ok (.iload_n 2, 1) := by decide +kernel
theorem dX7_mostFrom_37 : decode cX7_mostFrom 37 = .ok (.iconst (-1), 1) := by decide +kernel
theorem dX7_mostFrom_38 : decode cX7_mostFrom 38 = .ok (.ixor, 1) := by decide +kernel
theorem dX7_mostFrom_39 : decode cX7_mostFrom 39 = .ok (.iand, 1) := by decide +kernel
theorem dX7_mostFrom_40 : decode cX7_mostFrom 40 = .ok (.istore 6, 2) := by decide +kernel
theorem dX7_mostFrom_42 : decode cX7_mostFrom 42 = .ok (.iload 4, 2) := by decide +kernel
theorem dX7_mostFrom_44 : decode cX7_mostFrom 44 = .ok (.iload_n 3, 1) := by decide +kernel
theorem dX7_mostFrom_45 : decode cX7_mostFrom 45 = .ok (.iload 5, 2) := by decide +kernel
theorem dX7_mostFrom_47 : decode cX7_mostFrom 47 = .ok (.invokestatic 34, 3) := by decide +kernel
theorem dX7_mostFrom_50 : decode cX7_mostFrom 50 = .ok (.isub, 1) := by decide +kernel
theorem dX7_mostFrom_51 : decode cX7_mostFrom 51 = .ok (.iload 6, 2) := by decide +kernel
theorem dX7_mostFrom_53 : decode cX7_mostFrom 53 = .ok (.invokestatic 34, 3) := by decide +kernel
theorem dX7_mostFrom_56 : decode cX7_mostFrom 56 = .ok (.iadd, 1) := by decide +kernel
theorem dX7_mostFrom_57 : decode cX7_mostFrom 57 = .ok (.invokestatic 39, 3) := by decide +kernel
theorem dX7_mostFrom_60 : decode cX7_mostFrom 60 = .ok (.istore 4, 2) := by decide +kernel
theorem dX7_mostFrom_62 : decode cX7_mostFrom 62 = .ok (.iinc 5 1, 3) := by decide +kernel
theorem dX7_mostFrom_65 : decode cX7_mostFrom 65 = .ok (.goto (-45), 3) := by decide +kernel
theorem dX7_mostFrom_68 : decode cX7_mostFrom 68 = .ok (.iload 4, 2) := by decide +kernel
theorem dX7_mostFrom_70 : decode cX7_mostFrom 70 = .ok (.ireturn, 1) := by decide +kernel
theorem dX7_wishedBy_0 : decode cX7_wishedBy 0 = .ok (.iconst 0, 1) := by decide +kernel
theorem dX7_wishedBy_1 : decode cX7_wishedBy 1 = .ok (.istore_n 2, 1) := by decide +kernel
theorem dX7_wishedBy_2 : decode cX7_wishedBy 2 = .ok (.iconst 0, 1) := by decide +kernel
theorem dX7_wishedBy_3 : decode cX7_wishedBy 3 = .ok (.istore_n 3, 1) := by decide +kernel
theorem dX7_wishedBy_4 : decode cX7_wishedBy 4 = .ok (.iload_n 3, 1) := by decide +kernel
theorem dX7_wishedBy_5 : decode cX7_wishedBy 5 = .ok (.aload_n 0, 1) := by decide +kernel
theorem dX7_wishedBy_6 : decode cX7_wishedBy 6 = .ok (.getfield 14, 3) := by decide +kernel
theorem dX7_wishedBy_9 : decode cX7_wishedBy 9 = .ok (.getfield 20, 3) := by decide +kernel
theorem dX7_wishedBy_12 : decode cX7_wishedBy 12 = .ok (.if_icmp .ge 28, 3) := by decide +kernel
theorem dX7_wishedBy_15 : decode cX7_wishedBy 15 = .ok (.iload_n 1, 1) := by decide +kernel
theorem dX7_wishedBy_16 : decode cX7_wishedBy 16 = .ok (.iload_n 3, 1) := by decide +kernel
theorem dX7_wishedBy_17 : decode cX7_wishedBy 17 = .ok (.ishr, 1) := by decide +kernel
theorem dX7_wishedBy_18 : decode cX7_wishedBy 18 = .ok (.iconst 1, 1) := by decide +kernel
theorem dX7_wishedBy_19 : decode cX7_wishedBy 19 = .ok (.iand, 1) := by decide +kernel
theorem dX7_wishedBy_20 : decode cX7_wishedBy 20 = .ok (.ifCond .eq 14, 3) := by decide +kernel
theorem dX7_wishedBy_23 : decode cX7_wishedBy 23 = .ok (.iload_n 2, 1) := by decide +kernel
theorem dX7_wishedBy_24 : decode cX7_wishedBy 24 = .ok (.aload_n 0, 1) := by decide +kernel
theorem dX7_wishedBy_25 : decode cX7_wishedBy 25 = .ok (.getfield 14, 3) := by decide +kernel
theorem dX7_wishedBy_28 : decode cX7_wishedBy 28 = .ok (.iload_n 3, 1) := by decide +kernel
theorem dX7_wishedBy_29 : decode cX7_wishedBy 29 = .ok (.invokevirtual 42, 3) := by decide +kernel
theorem dX7_wishedBy_32 : decode cX7_wishedBy 32 = .ok (.ior, 1) := by decide +kernel
theorem dX7_wishedBy_33 : decode cX7_wishedBy 33 = .ok (.istore_n 2, 1) := by decide +kernel
theorem dX7_wishedBy_34 : decode cX7_wishedBy 34 = .ok (.iinc 3 1, 3) := by decide +kernel
theorem dX7_wishedBy_37 : decode cX7_wishedBy 37 = .ok (.goto (-33), 3) := by decide +kernel
theorem dX7_wishedBy_40 : decode cX7_wishedBy 40 = .ok (.iload_n 2, 1) := by decide +kernel
theorem dX7_wishedBy_41 : decode cX7_wishedBy 41 = .ok (.ireturn, 1) := by decide +kernel
theorem dX7_roomOf_0 : decode cX7_roomOf 0 = .ok (.iconst 0, 1) := by decide +kernel
theorem dX7_roomOf_1 : decode cX7_roomOf 1 = .ok (.istore_n 2, 1) := by decide +kernel
theorem dX7_roomOf_2 : decode cX7_roomOf 2 = .ok (.iconst (-1), 1) := by decide +kernel
theorem dX7_roomOf_3 : decode cX7_roomOf 3 = .ok (.istore_n 3, 1) := by decide +kernel
theorem dX7_roomOf_4 : decode cX7_roomOf 4 = .ok (.iconst 0, 1) := by decide +kernel
theorem dX7_roomOf_5 : decode cX7_roomOf 5 = .ok (.istore 4, 2) := by decide +kernel
theorem dX7_roomOf_7 : decode cX7_roomOf 7 = .ok (.iload 4, 2) := by decide +kernel
theorem dX7_roomOf_9 : decode cX7_roomOf 9 = .ok (.iload_n 1, 1) := by decide +kernel
theorem dX7_roomOf_10 : decode cX7_roomOf 10 = .ok (.if_icmp .gt 39, 3) := by decide +kernel
theorem dX7_roomOf_13 : decode cX7_roomOf 13 = .ok (.iload 4, 2) := by decide +kernel
theorem dX7_roomOf_15 : decode cX7_roomOf 15 = .ok (.aload_n 0, 1) := by decide +kernel
theorem dX7_roomOf_16 : decode cX7_roomOf 16 = .ok (.getfield 14, 3) := by decide +kernel
theorem dX7_roomOf_19 : decode cX7_roomOf 19 = .ok (.getfield 20, 3) := by decide +kernel
theorem dX7_roomOf_22 : decode cX7_roomOf 22 = .ok (.if_icmp .ge 27, 3) := by decide +kernel
theorem dX7_roomOf_25 : decode cX7_roomOf 25 = .ok (.aload_n 0, 1) := by decide +kernel
theorem dX7_roomOf_26 : decode cX7_roomOf 26 = .ok (.iload 4, 2) := by decide +kernel
theorem dX7_roomOf_28 : decode cX7_roomOf 28 = .ok (.iload_n 2, 1) := by decide +kernel
theorem dX7_roomOf_29 : decode cX7_roomOf 29 = .ok (.invokevirtual 45, 3) := by decide +kernel
theorem dX7_roomOf_32 : decode cX7_roomOf 32 = .ok (.istore_n 3, 1) := by decide +kernel
theorem dX7_roomOf_33 : decode cX7_roomOf 33 = .ok (.iload_n 3, 1) := by decide +kernel
theorem dX7_roomOf_34 : decode cX7_roomOf 34 = .ok (.ifCond .lt 9, 3) := by decide +kernel
theorem dX7_roomOf_37 : decode cX7_roomOf 37 = .ok (.iload_n 2, 1) := by decide +kernel
theorem dX7_roomOf_38 : decode cX7_roomOf 38 = .ok (.iconst 1, 1) := by decide +kernel
theorem dX7_roomOf_39 : decode cX7_roomOf 39 = .ok (.iload_n 3, 1) := by decide +kernel
theorem dX7_roomOf_40 : decode cX7_roomOf 40 = .ok (.ishl, 1) := by decide +kernel
theorem dX7_roomOf_41 : decode cX7_roomOf 41 = .ok (.ior, 1) := by decide +kernel
theorem dX7_roomOf_42 : decode cX7_roomOf 42 = .ok (.istore_n 2, 1) := by decide +kernel
theorem dX7_roomOf_43 : decode cX7_roomOf 43 = .ok (.iinc 4 1, 3) := by decide +kernel
theorem dX7_roomOf_46 : decode cX7_roomOf 46 = .ok (.goto (-39), 3) := by decide +kernel
theorem dX7_roomOf_49 : decode cX7_roomOf 49 = .ok (.iload_n 3, 1) := by decide +kernel
theorem dX7_roomOf_50 : decode cX7_roomOf 50 = .ok (.ireturn, 1) := by decide +kernel
theorem dX7_firstRoom_0 : decode cX7_firstRoom 0 = .ok (.aload_n 0, 1) := by decide +kernel
theorem dX7_firstRoom_1 : decode cX7_firstRoom 1 = .ok (.iload_n 1, 1) := by decide +kernel
theorem dX7_firstRoom_2 : decode cX7_firstRoom 2 = .ok (.iload_n 2, 1) := by decide +kernel
theorem dX7_firstRoom_3 : decode cX7_firstRoom 3 = .ok (.invokevirtual 48, 3) := by decide +kernel
theorem dX7_firstRoom_6 : decode cX7_firstRoom 6 = .ok (.istore_n 3, 1) := by decide +kernel
theorem dX7_firstRoom_7 : decode cX7_firstRoom 7 = .ok (.aload_n 0, 1) := by decide +kernel
theorem dX7_firstRoom_8 : decode cX7_firstRoom 8 = .ok (.getfield 14, 3) := by decide +kernel
theorem dX7_firstRoom_11 : decode cX7_firstRoom 11 = .ok (.iload_n 1, 1) := by decide +kernel
theorem dX7_firstRoom_12 : decode cX7_firstRoom 12 = .ok (.invokevirtual 42, 3) := by decide +kernel
theorem dX7_firstRoom_15 : decode cX7_firstRoom 15 = .ok (.iload_n 2, 1) := by decide +kernel
theorem dX7_firstRoom_16 : decode cX7_firstRoom 16 = .ok (.iconst (-1), 1) := by decide +kernel
theorem dX7_firstRoom_17 : decode cX7_firstRoom 17 = .ok (.ixor, 1) := by decide +kernel
theorem dX7_firstRoom_18 : decode cX7_firstRoom 18 = .ok (.iand, 1) := by decide +kernel
theorem dX7_firstRoom_19 : decode cX7_firstRoom 19 = .ok (.istore 4, 2) := by decide +kernel
theorem dX7_firstRoom_21 : decode cX7_firstRoom 21 = .ok (.iconst 0, 1) := by decide +kernel
theorem dX7_firstRoom_22 : decode cX7_firstRoom 22 = .ok (.istore 5, 2) := by decide +kernel
theorem dX7_firstRoom_24 : decode cX7_firstRoom 24 = .ok (.iload 5, 2) := by decide +kernel
theorem dX7_firstRoom_26 : decode cX7_firstRoom 26 = .ok (.bipush 24, 2) := by decide +kernel
theorem dX7_firstRoom_28 : decode cX7_firstRoom 28 = .ok (.if_icmp .ge 41, 3) := by decide +kernel
theorem dX7_firstRoom_31 : decode cX7_firstRoom 31 = .ok (.iload 4, 2) := by decide +kernel
theorem dX7_firstRoom_33 : decode cX7_firstRoom 33 = .ok (.iload 5, 2) := by decide +kernel
theorem dX7_firstRoom_35 : decode cX7_firstRoom 35 = .ok (.ishr, 1) := by decide +kernel
theorem dX7_firstRoom_36 : decode cX7_firstRoom 36 = .ok (.iconst 1, 1) := by decide +kernel
theorem dX7_firstRoom_37 : decode cX7_firstRoom 37 = .ok (.iand, 1) := by decide +kernel
theorem dX7_firstRoom_38 : decode cX7_firstRoom 38 = .ok (.ifCond .eq 25, 3) := by decide +kernel
theorem dX7_firstRoom_41 : decode cX7_firstRoom 41 = .ok (.iconst 1, 1) := by decide +kernel
theorem dX7_firstRoom_42 : decode cX7_firstRoom 42 = .ok (.aload_n 0, 1) := by decide +kernel
theorem dX7_firstRoom_43 : decode cX7_firstRoom 43 = .ok (.iload_n 1, 1) := by decide +kernel
theorem dX7_firstRoom_44 : decode cX7_firstRoom 44 = .ok (.iconst 1, 1) := by decide +kernel
theorem dX7_firstRoom_45 : decode cX7_firstRoom 45 = .ok (.iadd, 1) := by decide +kernel
theorem dX7_firstRoom_46 : decode cX7_firstRoom 46 = .ok (.iload_n 2, 1) := by decide +kernel
theorem dX7_firstRoom_47 : decode cX7_firstRoom 47 = .ok (.iconst 1, 1) := by decide +kernel
theorem dX7_firstRoom_48 : decode cX7_firstRoom 48 = .ok (.iload 5, 2) := by decide +kernel
theorem dX7_firstRoom_50 : decode cX7_firstRoom 50 = .ok (.ishl, 1) := by decide +kernel
theorem dX7_firstRoom_51 : decode cX7_firstRoom 51 = .ok (.ior, 1) := by decide +kernel
theorem dX7_firstRoom_52 : decode cX7_firstRoom 52 = .ok (.invokevirtual 48, 3) := by decide +kernel
theorem dX7_firstRoom_55 : decode cX7_firstRoom 55 = .ok (.iadd, 1) := by decide +kernel
theorem dX7_firstRoom_56 : decode cX7_firstRoom 56 = .ok (.iload_n 3, 1) := by decide +kernel
theorem dX7_firstRoom_57 : decode cX7_firstRoom 57 = .ok (.if_icmp .ne 6, 3) := by decide +kernel
theorem dX7_firstRoom_60 : decode cX7_firstRoom 60 = .ok (.iload 5, 2) := by decide +kernel
theorem dX7_firstRoom_62 : decode cX7_firstRoom 62 = .ok (.ireturn, 1) := by decide +kernel
theorem dX7_firstRoom_63 : decode cX7_firstRoom 63 = .ok (.iinc 5 1, 3) := by decide +kernel
theorem dX7_firstRoom_66 : decode cX7_firstRoom 66 = .ok (.goto (-42), 3) := by decide +kernel
theorem dX7_firstRoom_69 : decode cX7_firstRoom 69 = .ok (.iconst (-1), 1) := by decide +kernel
theorem dX7_firstRoom_70 : decode cX7_firstRoom 70 = .ok (.ireturn, 1) := by decide +kernel
theorem dJ6_bitCount_0f7a4_0 : decode cJ6_bitCount_0f7a4 0 = .ok (.iload_n 0, 1) := by decide +kernel
theorem dJ6_bitCount_0f7a4_1 : decode cJ6_bitCount_0f7a4 1 = .ok (.iload_n 0, 1) := by decide +kernel
theorem dJ6_bitCount_0f7a4_2 : decode cJ6_bitCount_0f7a4 2 = .ok (.iconst 1, 1) := by decide +kernel
theorem dJ6_bitCount_0f7a4_3 : decode cJ6_bitCount_0f7a4 3 = .ok (.iushr, 1) := by decide +kernel
theorem dJ6_bitCount_0f7a4_4 : decode cJ6_bitCount_0f7a4 4 = .ok (.ldc_w 265, 3) := by decide +kernel
theorem dJ6_bitCount_0f7a4_7 : decode cJ6_bitCount_0f7a4 7 = .ok (.iand, 1) := by decide +kernel
theorem dJ6_bitCount_0f7a4_8 : decode cJ6_bitCount_0f7a4 8 = .ok (.isub, 1) := by decide +kernel
theorem dJ6_bitCount_0f7a4_9 : decode cJ6_bitCount_0f7a4 9 = .ok (.istore_n 0, 1) := by decide +kernel
theorem dJ6_bitCount_0f7a4_10 : decode cJ6_bitCount_0f7a4 10 = .ok (.iload_n 0, 1) := by decide +kernel
theorem dJ6_bitCount_0f7a4_11 : decode cJ6_bitCount_0f7a4 11 = .ok (.ldc_w 266, 3) := by decide +kernel
theorem dJ6_bitCount_0f7a4_14 : decode cJ6_bitCount_0f7a4 14 = .ok (.iand, 1) := by decide +kernel
theorem dJ6_bitCount_0f7a4_15 : decode cJ6_bitCount_0f7a4 15 = .ok (.iload_n 0, 1) := by decide +kernel
theorem dJ6_bitCount_0f7a4_16 : decode cJ6_bitCount_0f7a4 16 = .ok (.iconst 2, 1) := by decide +kernel
theorem dJ6_bitCount_0f7a4_17 : decode cJ6_bitCount_0f7a4 17 = .ok (.iushr, 1) := by decide +kernel
theorem dJ6_bitCount_0f7a4_18 : decode cJ6_bitCount_0f7a4 18 = .ok (.ldc_w 266, 3) := by decide +kernel
theorem dJ6_bitCount_0f7a4_21 : decode cJ6_bitCount_0f7a4 21 = .ok (.iand, 1) := by decide +kernel
theorem dJ6_bitCount_0f7a4_22 : decode cJ6_bitCount_0f7a4 22 = .ok (.iadd, 1) := by decide +kernel
theorem dJ6_bitCount_0f7a4_23 : decode cJ6_bitCount_0f7a4 23 = .ok (.istore_n 0, 1) := by decide +kernel
theorem dJ6_bitCount_0f7a4_24 : decode cJ6_bitCount_0f7a4 24 = .ok (.iload_n 0, 1) := by decide +kernel
theorem dJ6_bitCount_0f7a4_25 : decode cJ6_bitCount_0f7a4 25 = .ok (.iload_n 0, 1) := by decide +kernel
theorem dJ6_bitCount_0f7a4_26 : decode cJ6_bitCount_0f7a4 26 = .ok (.iconst 4, 1) := by decide +kernel
theorem dJ6_bitCount_0f7a4_27 : decode cJ6_bitCount_0f7a4 27 = .ok (.iushr, 1) := by decide +kernel
theorem dJ6_bitCount_0f7a4_28 : decode cJ6_bitCount_0f7a4 28 = .ok (.iadd, 1) := by decide +kernel
theorem dJ6_bitCount_0f7a4_29 : decode cJ6_bitCount_0f7a4 29 = .ok (.ldc_w 267, 3) := by decide +kernel
theorem dJ6_bitCount_0f7a4_32 : decode cJ6_bitCount_0f7a4 32 = .ok (.iand, 1) := by decide +kernel
theorem dJ6_bitCount_0f7a4_33 : decode cJ6_bitCount_0f7a4 33 = .ok (.istore_n 0, 1) := by decide +kernel
theorem dJ6_bitCount_0f7a4_34 : decode cJ6_bitCount_0f7a4 34 = .ok (.iload_n 0, 1) := by decide +kernel
theorem dJ6_bitCount_0f7a4_35 : decode cJ6_bitCount_0f7a4 35 = .ok (.iload_n 0, 1) := by decide +kernel
theorem dJ6_bitCount_0f7a4_36 : decode cJ6_bitCount_0f7a4 36 = .ok (.bipush 8, 2) := by decide +kernel
theorem dJ6_bitCount_0f7a4_38 : decode cJ6_bitCount_0f7a4 38 = .ok (.iushr, 1) := by decide +kernel
theorem dJ6_bitCount_0f7a4_39 : decode cJ6_bitCount_0f7a4 39 = .ok (.iadd, 1) := by decide +kernel
theorem dJ6_bitCount_0f7a4_40 : decode cJ6_bitCount_0f7a4 40 = .ok (.istore_n 0, 1) := by decide +kernel
theorem dJ6_bitCount_0f7a4_41 : decode cJ6_bitCount_0f7a4 41 = .ok (.iload_n 0, 1) := by decide +kernel
theorem dJ6_bitCount_0f7a4_42 : decode cJ6_bitCount_0f7a4 42 = .ok (.iload_n 0, 1) := by decide +kernel
theorem dJ6_bitCount_0f7a4_43 : decode cJ6_bitCount_0f7a4 43 = .ok (.bipush 16, 2) := by decide +kernel
theorem dJ6_bitCount_0f7a4_45 : decode cJ6_bitCount_0f7a4 45 = .ok (.iushr, 1) := by decide +kernel
theorem dJ6_bitCount_0f7a4_46 : decode cJ6_bitCount_0f7a4 46 = .ok (.iadd, 1) := by decide +kernel
theorem dJ6_bitCount_0f7a4_47 : decode cJ6_bitCount_0f7a4 47 = .ok (.istore_n 0, 1) := by decide +kernel
theorem dJ6_bitCount_0f7a4_48 : decode cJ6_bitCount_0f7a4 48 = .ok (.iload_n 0, 1) := by decide +kernel
theorem dJ6_bitCount_0f7a4_49 : decode cJ6_bitCount_0f7a4 49 = .ok (.bipush 63, 2) := by decide +kernel
theorem dJ6_bitCount_0f7a4_51 : decode cJ6_bitCount_0f7a4 51 = .ok (.iand, 1) := by decide +kernel
theorem dJ6_bitCount_0f7a4_52 : decode cJ6_bitCount_0f7a4 52 = .ok (.ireturn, 1) := by decide +kernel
theorem dJ9_max_7cf53_0 : decode cJ9_max_7cf53 0 = .ok (.iload_n 0, 1) := by decide +kernel
theorem dJ9_max_7cf53_1 : decode cJ9_max_7cf53 1 = .ok (.iload_n 1, 1) := by decide +kernel
theorem dJ9_max_7cf53_2 : decode cJ9_max_7cf53 2 = .ok (.if_icmp .lt 7, 3) := by decide +kernel
theorem dJ9_max_7cf53_5 : decode cJ9_max_7cf53 5 = .ok (.iload_n 0, 1) := by decide +kernel
theorem dJ9_max_7cf53_6 : decode cJ9_max_7cf53 6 = .ok (.goto 4, 3) := by decide +kernel
theorem dJ9_max_7cf53_9 : decode cJ9_max_7cf53 9 = .ok (.iload_n 1, 1) := by decide +kernel
theorem dJ9_max_7cf53_10 : decode cJ9_max_7cf53 10 = .ok (.ireturn, 1) := by decide +kernel
theorem dJ9_min_7cf53_0 : decode cJ9_min_7cf53 0 = .ok (.iload_n 0, 1) := by decide +kernel
theorem dJ9_min_7cf53_1 : decode cJ9_min_7cf53 1 = .ok (.iload_n 1, 1) := by decide +kernel
theorem dJ9_min_7cf53_2 : decode cJ9_min_7cf53 2 = .ok (.if_icmp .gt 7, 3) := by decide +kernel
theorem dJ9_min_7cf53_5 : decode cJ9_min_7cf53 5 = .ok (.iload_n 0, 1) := by decide +kernel
theorem dJ9_min_7cf53_6 : decode cJ9_min_7cf53 6 = .ok (.goto 4, 3) := by decide +kernel
theorem dJ9_min_7cf53_9 : decode cJ9_min_7cf53 9 = .ok (.iload_n 1, 1) := by decide +kernel
theorem dJ9_min_7cf53_10 : decode cJ9_min_7cf53 10 = .ok (.ireturn, 1) := by decide +kernel
theorem dJ0_length_8abf5_0 : decode cJ0_length_8abf5 0 = .ok (.aload_n 0, 1) := by decide +kernel
theorem dJ0_length_8abf5_1 : decode cJ0_length_8abf5 1 = .ok (.getfield 9, 3) := by decide +kernel
theorem dJ0_length_8abf5_4 : decode cJ0_length_8abf5 4 = .ok (.arraylength, 1) := by decide +kernel
theorem dJ0_length_8abf5_5 : decode cJ0_length_8abf5 5 = .ok (.aload_n 0, 1) := by decide +kernel
theorem dJ0_length_8abf5_6 : decode cJ0_length_8abf5 6 = .ok (.invokevirtual 335, 3) := by decide +kernel
theorem dJ0_length_8abf5_9 : decode cJ0_length_8abf5 9 = .ok (.ishr, 1) := by decide +kernel
theorem dJ0_length_8abf5_10 : decode cJ0_length_8abf5 10 = .ok (.ireturn, 1) := by decide +kernel
theorem dJ0_charAt_5068e_0 : decode cJ0_charAt_5068e 0 = .ok (.aload_n 0, 1) := by decide +kernel
theorem dJ0_charAt_5068e_1 : decode cJ0_charAt_5068e 1 = .ok (.invokevirtual 492, 3) := by decide +kernel
theorem dJ0_charAt_5068e_4 : decode cJ0_charAt_5068e 4 = .ok (.ifCond .eq 12, 3) := by decide +kernel
theorem dJ0_charAt_5068e_7 : decode cJ0_charAt_5068e 7 = .ok (.aload_n 0, 1) := by decide +kernel
theorem dJ0_charAt_5068e_8 : decode cJ0_charAt_5068e 8 = .ok (.getfield 9, 3) := by decide +kernel
theorem dJ0_charAt_5068e_11 : decode cJ0_charAt_5068e 11 = .ok (.iload_n 1, 1) := by decide +kernel
theorem dJ0_charAt_5068e_12 : decode cJ0_charAt_5068e 12 = .ok (.invokestatic 495, 3) := by decide +kernel
theorem dJ0_charAt_5068e_15 : decode cJ0_charAt_5068e 15 = .ok (.ireturn, 1) := by decide +kernel
theorem dJ0_charAt_5068e_16 : decode cJ0_charAt_5068e 16 = .ok (.aload_n 0, 1) := by decide +kernel
theorem dJ0_charAt_5068e_17 : decode cJ0_charAt_5068e 17 = .ok (.getfield 9, 3) := by decide +kernel
theorem dJ0_charAt_5068e_20 : decode cJ0_charAt_5068e 20 = .ok (.iload_n 1, 1) := by decide +kernel
theorem dJ0_charAt_5068e_21 : decode cJ0_charAt_5068e 21 = .ok (.invokestatic 498, 3) := by decide +kernel
theorem dJ0_charAt_5068e_24 : decode cJ0_charAt_5068e 24 = .ok (.ireturn, 1) := by decide +kernel
theorem dJ0_coder_7d493_0 : decode cJ0_coder_7d493 0 = .ok (.getstatic 38, 3) := by decide +kernel
theorem dJ0_coder_7d493_3 : decode cJ0_coder_7d493 3 = .ok (.ifCond .eq 10, 3) := by decide +kernel
theorem dJ0_coder_7d493_6 : decode cJ0_coder_7d493 6 = .ok (.aload_n 0, 1) := by decide +kernel
theorem dJ0_coder_7d493_7 : decode cJ0_coder_7d493 7 = .ok (.getfield 15, 3) := by decide +kernel
theorem dJ0_coder_7d493_10 : decode cJ0_coder_7d493 10 = .ok (.goto 4, 3) := by decide +kernel
theorem dJ0_coder_7d493_13 : decode cJ0_coder_7d493 13 = .ok (.iconst 1, 1) := by decide +kernel
theorem dJ0_coder_7d493_14 : decode cJ0_coder_7d493 14 = .ok (.ireturn, 1) := by decide +kernel
theorem dJ0_isLatin1_aae02_0 : decode cJ0_isLatin1_aae02 0 = .ok (.getstatic 38, 3) := by decide +kernel
theorem dJ0_isLatin1_aae02_3 : decode cJ0_isLatin1_aae02 3 = .ok (.ifCond .eq 14, 3) := by decide +kernel
theorem dJ0_isLatin1_aae02_6 : decode cJ0_isLatin1_aae02 6 = .ok (.aload_n 0, 1) := by decide +kernel
theorem dJ0_isLatin1_aae02_7 : decode cJ0_isLatin1_aae02 7 = .ok (.getfield 15, 3) := by decide +kernel
theorem dJ0_isLatin1_aae02_10 : decode cJ0_isLatin1_aae02 10 = .ok (.ifCond .ne 7, 3) := by decide +kernel
theorem dJ0_isLatin1_aae02_13 : decode cJ0_isLatin1_aae02 13 = .ok (.iconst 1, 1) := by decide +kernel
theorem dJ0_isLatin1_aae02_14 : decode cJ0_isLatin1_aae02 14 = .ok (.goto 4, 3) := by decide +kernel
theorem dJ0_isLatin1_aae02_17 : decode cJ0_isLatin1_aae02 17 = .ok (.iconst 0, 1) := by decide +kernel
theorem dJ0_isLatin1_aae02_18 : decode cJ0_isLatin1_aae02 18 = .ok (.ireturn, 1) := by decide +kernel
theorem dJ0_checkIndex_df160_0 : decode cJ0_checkIndex_df160 0 = .ok (.iload_n 0, 1) := by decide +kernel
theorem dJ0_checkIndex_df160_1 : decode cJ0_checkIndex_df160 1 = .ok (.iload_n 1, 1) := by decide +kernel
theorem dJ0_checkIndex_df160_2 : decode cJ0_checkIndex_df160 2 = .ok (.getstatic 1053, 3) := by decide +kernel
theorem dJ0_checkIndex_df160_5 : decode cJ0_checkIndex_df160 5 = .ok (.invokestatic 1059, 3) := by decide +kernel
theorem dJ0_checkIndex_df160_8 : decode cJ0_checkIndex_df160 8 = .ok (.pop, 1) := by decide +kernel
theorem dJ0_checkIndex_df160_9 : decode cJ0_checkIndex_df160 9 = .ok (.return_, 1) := by decide +kernel
theorem dJ1_charAt_3b067_0 : decode cJ1_charAt_3b067 0 = .ok (.iload_n 1, 1) := by decide +kernel
theorem dJ1_charAt_3b067_1 : decode cJ1_charAt_3b067 1 = .ok (.aload_n 0, 1) := by decide +kernel
theorem dJ1_charAt_3b067_2 : decode cJ1_charAt_3b067 2 = .ok (.arraylength, 1) := by decide +kernel
theorem dJ1_charAt_3b067_3 : decode cJ1_charAt_3b067 3 = .ok (.invokestatic 9, 3) := by decide +kernel
theorem dJ1_charAt_3b067_6 : decode cJ1_charAt_3b067 6 = .ok (.aload_n 0, 1) := by decide +kernel
theorem dJ1_charAt_3b067_7 : decode cJ1_charAt_3b067 7 = .ok (.iload_n 1, 1) := by decide +kernel
theorem dJ1_charAt_3b067_8 : decode cJ1_charAt_3b067 8 = .ok (.baload, 1) := by decide +kernel
theorem dJ1_charAt_3b067_9 : decode cJ1_charAt_3b067 9 = .ok (.sipush 255, 3) := by decide +kernel
theorem dJ1_charAt_3b067_12 : decode cJ1_charAt_3b067 12 = .ok (.iand, 1) := by decide +kernel
theorem dJ1_charAt_3b067_13 : decode cJ1_charAt_3b067 13 = .ok (.i2c, 1) := by decide +kernel
theorem dJ1_charAt_3b067_14 : decode cJ1_charAt_3b067 14 = .ok (.ireturn, 1) := by decide +kernel
theorem dJ2_getChar_3b067_0 : decode cJ2_getChar_3b067 0 = .ok (.getstatic 44, 3) := by decide +kernel
theorem dJ2_getChar_3b067_3 : decode cJ2_getChar_3b067 3 = .ok (.ifCond .ne 25, 3) := by decide +kernel
theorem dJ2_getChar_3b067_6 : decode cJ2_getChar_3b067 6 = .ok (.iload_n 1, 1) := by decide +kernel
theorem dJ2_getChar_3b067_7 : decode cJ2_getChar_3b067 7 = .ok (.ifCond .lt 11, 3) := by decide +kernel
theorem dJ2_getChar_3b067_10 : decode cJ2_getChar_3b067 10 = .ok (.iload_n 1, 1) := by decide +kernel
theorem dJ2_getChar_3b067_11 : decode cJ2_getChar_3b067 11 = .ok (.aload_n 0, 1) := by decide +kernel
theorem dJ2_getChar_3b067_12 : decode cJ2_getChar_3b067 12 = .ok (.invokestatic 48, 3) := by decide +kernel
theorem dJ2_getChar_3b067_15 : decode cJ2_getChar_3b067 15 = .ok (.if_icmp .lt 13, 3) := by decide +kernel
theorem dJ2_getChar_3b067_18 : decode cJ2_getChar_3b067 18 = .ok (.new 52, 3) := by decide +kernel
theorem dJ2_getChar_3b067_21 : decode cJ2_getChar_3b067 21 = .ok (.dup, 1) := by decide +kernel
theorem dJ2_getChar_3b067_22 : decode cJ2_getChar_3b067 22 = .ok (.ldc 54, 2) := by decide +kernel
theorem dJ2_getChar_3b067_24 : decode cJ2_getChar_3b067 24 = .ok (.invokespecial 56, 3) := by decide +kernel
theorem dJ2_getChar_3b067_27 : decode cJ2_getChar_3b067 27 = .ok (.athrow, 1) := by decide +kernel
theorem dJ2_getChar_3b067_28 : decode cJ2_getChar_3b067 28 = .ok (.iload_n 1, 1) := by decide +kernel
theorem dJ2_getChar_3b067_29 : decode cJ2_getChar_3b067 29 = .ok (.iconst 1, 1) := by decide +kernel
theorem dJ2_getChar_3b067_30 : decode cJ2_getChar_3b067 30 = .ok (.ishl, 1) := by decide +kernel
theorem dJ2_getChar_3b067_31 : decode cJ2_getChar_3b067 31 = .ok (.istore_n 1, 1) := by decide +kernel
theorem dJ2_getChar_3b067_32 : decode cJ2_getChar_3b067 32 = .ok (.aload_n 0, 1) := by decide +kernel
theorem dJ2_getChar_3b067_33 : decode cJ2_getChar_3b067 33 = .ok (.iload_n 1, 1) := by decide +kernel
theorem dJ2_getChar_3b067_34 : decode cJ2_getChar_3b067 34 = .ok (.iinc 1 1, 3) := by decide +kernel
theorem dJ2_getChar_3b067_37 : decode cJ2_getChar_3b067 37 = .ok (.baload, 1) := by decide +kernel
theorem dJ2_getChar_3b067_38 : decode cJ2_getChar_3b067 38 = .ok (.sipush 255, 3) := by decide +kernel
theorem dJ2_getChar_3b067_41 : decode cJ2_getChar_3b067 41 = .ok (.iand, 1) := by decide +kernel
theorem dJ2_getChar_3b067_42 : decode cJ2_getChar_3b067 42 = .ok (.getstatic 59, 3) := by decide +kernel
theorem dJ2_getChar_3b067_45 : decode cJ2_getChar_3b067 45 = .ok (.ishl, 1) := by decide +kernel
theorem dJ2_getChar_3b067_46 : decode cJ2_getChar_3b067 46 = .ok (.aload_n 0, 1) := by decide +kernel
theorem dJ2_getChar_3b067_47 : decode cJ2_getChar_3b067 47 = .ok (.iload_n 1, 1) := by decide +kernel
theorem dJ2_getChar_3b067_48 : decode cJ2_getChar_3b067 48 = .ok (.baload, 1) := by decide +kernel
theorem dJ2_getChar_3b067_49 : decode cJ2_getChar_3b067 49 = .ok (.sipush 255, 3) := by decide +kernel
theorem dJ2_getChar_3b067_52 : decode cJ2_getChar_3b067 52 = .ok (.iand, 1) := by decide +kernel
theorem dJ2_getChar_3b067_53 : decode cJ2_getChar_3b067 53 = .ok (.getstatic 63, 3) := by decide +kernel
theorem dJ2_getChar_3b067_56 : decode cJ2_getChar_3b067 56 = .ok (.ishl, 1) := by decide +kernel
theorem dJ2_getChar_3b067_57 : decode cJ2_getChar_3b067 57 = .ok (.ior, 1) := by decide +kernel
theorem dJ2_getChar_3b067_58 : decode cJ2_getChar_3b067 58 = .ok (.i2c, 1) := by decide +kernel
theorem dJ2_getChar_3b067_59 : decode cJ2_getChar_3b067 59 = .ok (.ireturn, 1) := by decide +kernel
theorem dJ2_length_9d52b_0 : decode cJ2_length_9d52b 0 = .ok (.aload_n 0, 1) := by decide +kernel
theorem dJ2_length_9d52b_1 : decode cJ2_length_9d52b 1 = .ok (.arraylength, 1) := by decide +kernel
theorem dJ2_length_9d52b_2 : decode cJ2_length_9d52b 2 = .ok (.iconst 1, 1) := by decide +kernel
theorem dJ2_length_9d52b_3 : decode cJ2_length_9d52b 3 = .ok (.ishr, 1) := by decide +kernel
theorem dJ2_length_9d52b_4 : decode cJ2_length_9d52b 4 = .ok (.ireturn, 1) := by decide +kernel
theorem dJ2_charAt_3b067_0 : decode cJ2_charAt_3b067 0 = .ok (.iload_n 1, 1) := by decide +kernel
theorem dJ2_charAt_3b067_1 : decode cJ2_charAt_3b067 1 = .ok (.aload_n 0, 1) := by decide +kernel
theorem dJ2_charAt_3b067_2 : decode cJ2_charAt_3b067 2 = .ok (.invokestatic 67, 3) := by decide +kernel
theorem dJ2_charAt_3b067_5 : decode cJ2_charAt_3b067 5 = .ok (.aload_n 0, 1) := by decide +kernel
theorem dJ2_charAt_3b067_6 : decode cJ2_charAt_3b067 6 = .ok (.iload_n 1, 1) := by decide +kernel
theorem dJ2_charAt_3b067_7 : decode cJ2_charAt_3b067 7 = .ok (.invokestatic 71, 3) := by decide +kernel
theorem dJ2_charAt_3b067_10 : decode cJ2_charAt_3b067 10 = .ok (.ireturn, 1) := by decide +kernel
theorem dJ2_checkIndex_2214a_0 : decode cJ2_checkIndex_2214a 0 = .ok (.iload_n 0, 1) := by decide +kernel
theorem dJ2_checkIndex_2214a_1 : decode cJ2_checkIndex_2214a 1 = .ok (.aload_n 1, 1) := by decide +kernel
theorem dJ2_checkIndex_2214a_2 : decode cJ2_checkIndex_2214a 2 = .ok (.invokestatic 48, 3) := by decide +kernel
theorem dJ2_checkIndex_2214a_5 : decode cJ2_checkIndex_2214a 5 = .ok (.invokestatic 414, 3) := by decide +kernel
theorem dJ2_checkIndex_2214a_8 : decode cJ2_checkIndex_2214a 8 = .ok (.return_, 1) := by decide +kernel
theorem dJ3_checkIndex_8e157_0 : decode cJ3_checkIndex_8e157 0 = .ok (.iload_n 0, 1) := by decide +kernel
theorem dJ3_checkIndex_8e157_1 : decode cJ3_checkIndex_8e157 1 = .ok (.ifCond .lt 8, 3) := by decide +kernel
theorem dJ3_checkIndex_8e157_4 : decode cJ3_checkIndex_8e157 4 = .ok (.iload_n 0, 1) := by decide +kernel
theorem dJ3_checkIndex_8e157_5 : decode cJ3_checkIndex_8e157 5 = .ok (.iload_n 1, 1) := by decide +kernel
theorem dJ3_checkIndex_8e157_6 : decode cJ3_checkIndex_8e157 6 = .ok (.if_icmp .lt 10, 3) := by decide +kernel
theorem dJ3_checkIndex_8e157_9 : decode cJ3_checkIndex_8e157 9 = .ok (.aload_n 2, 1) := by decide +kernel
theorem dJ3_checkIndex_8e157_10 : decode cJ3_checkIndex_8e157 10 = .ok (.iload_n 0, 1) := by decide +kernel
theorem dJ3_checkIndex_8e157_11 : decode cJ3_checkIndex_8e157 11 = .ok (.iload_n 1, 1) := by decide +kernel
theorem dJ3_checkIndex_8e157_12 : decode cJ3_checkIndex_8e157 12 = .ok (.invokestatic 95, 3) := by decide +kernel
theorem dJ3_checkIndex_8e157_15 : decode cJ3_checkIndex_8e157 15 = .ok (.athrow, 1) := by decide +kernel
theorem dJ3_checkIndex_8e157_16 : decode cJ3_checkIndex_8e157 16 = .ok (.iload_n 0, 1) := by decide +kernel
theorem dJ3_checkIndex_8e157_17 : decode cJ3_checkIndex_8e157 17 = .ok (.ireturn, 1) := by decide +kernel
end
section
theorem dX8_init_0 : decode cX8_init 0 = .ok (.aload_n 0, 1) := by decide +kernel
theorem dX8_init_1 : decode cX8_init 1 = .ok (.invokespecial 3, 3) := by decide +kernel
theorem dX8_init_4 : decode cX8_init 4 = .ok (.aload_n 0, 1) := by decide +kernel
theorem dX8_init_5 : decode cX8_init 5 = .ok (.new 9, 3) := by decide +kernel
theorem dX8_init_8 : decode cX8_init 8 = .ok (.dup, 1) := by decide +kernel
theorem dX8_init_9 : decode cX8_init 9 = .ok (.invokespecial 11, 3) := by decide +kernel
theorem dX8_init_12 : decode cX8_init 12 = .ok (.putfield 12, 3) := by decide +kernel
theorem dX8_init_15 : decode cX8_init 15 = .ok (.aload_n 0, 1) := by decide +kernel
theorem dX8_init_16 : decode cX8_init 16 = .ok (.new 9, 3) := by decide +kernel
theorem dX8_init_19 : decode cX8_init 19 = .ok (.dup, 1) := by decide +kernel
theorem dX8_init_20 : decode cX8_init 20 = .ok (.invokespecial 11, 3) := by decide +kernel
theorem dX8_init_23 : decode cX8_init 23 = .ok (.putfield 16, 3) := by decide +kernel
theorem dX8_init_26 : decode cX8_init 26 = .ok (.aload_n 0, 1) := by decide +kernel
theorem dX8_init_27 : decode cX8_init 27 = .ok (.new 9, 3) := by decide +kernel
theorem dX8_init_30 : decode cX8_init 30 = .ok (.dup, 1) := by decide +kernel
theorem dX8_init_31 : decode cX8_init 31 = .ok (.invokespecial 11, 3) := by decide +kernel
theorem dX8_init_34 : decode cX8_init 34 = .ok (.putfield 19, 3) := by decide +kernel
theorem dX8_init_37 : decode cX8_init 37 = .ok (.aload_n 0, 1) := by decide +kernel
theorem dX8_init_38 : decode cX8_init 38 = .ok (.new 22, 3) := by decide +kernel
theorem dX8_init_41 : decode cX8_init 41 = .ok (.dup, 1) := by decide +kernel
theorem dX8_init_42 : decode cX8_init 42 = .ok (.invokespecial 24, 3) := by decide +kernel
theorem dX8_init_45 : decode cX8_init 45 = .ok (.putfield 25, 3) := by decide +kernel
theorem dX8_init_48 : decode cX8_init 48 = .ok (.aload_n 0, 1) := by decide +kernel
theorem dX8_init_49 : decode cX8_init 49 = .ok (.new 29, 3) := by decide +kernel
theorem dX8_init_52 : decode cX8_init 52 = .ok (.dup, 1) := by decide +kernel
theorem dX8_init_53 : decode cX8_init 53 = .ok (.invokespecial 31, 3) := by decide +kernel
theorem dX8_init_56 : decode cX8_init 56 = .ok (.putfield 32, 3) := by decide +kernel
theorem dX8_init_59 : decode cX8_init 59 = .ok (.aload_n 0, 1) := by decide +kernel
theorem dX8_init_60 : decode cX8_init 60 = .ok (.new 36, 3) := by decide +kernel
theorem dX8_init_63 : decode cX8_init 63 = .ok (.dup, 1) := by decide +kernel
theorem dX8_init_64 : decode cX8_init 64 = .ok (.invokespecial 38, 3) := by decide +kernel
theorem dX8_init_67 : decode cX8_init 67 = .ok (.putfield 39, 3) := by decide +kernel
theorem dX8_init_70 : decode cX8_init 70 = .ok (.aload_n 0, 1) := by decide +kernel
theorem dX8_init_71 : decode cX8_init 71 = .ok (.iconst 4, 1) := by decide +kernel
theorem dX8_init_72 : decode cX8_init 72 = .ok (.anewarray 43, 3) := by decide +kernel
theorem dX8_init_75 : decode cX8_init 75 = .ok (.putfield 45, 3) := by decide +kernel
theorem dX8_init_78 : decode cX8_init 78 = .ok (.aload_n 0, 1) := by decide +kernel
theorem dX8_init_79 : decode cX8_init 79 = .ok (.bipush 6, 2) := by decide +kernel
theorem dX8_init_81 : decode cX8_init 81 = .ok (.newarray .int, 2) := by decide +kernel
theorem dX8_init_83 : decode cX8_init 83 = .ok (.putfield 49, 3) := by decide +kernel
theorem dX8_init_86 : decode cX8_init 86 = .ok (.iconst 0, 1) := by decide +kernel
theorem dX8_init_87 : decode cX8_init 87 = .ok (.istore_n 1, 1) := by decide +kernel
theorem dX8_init_88 : decode cX8_init 88 = .ok (.iload_n 1, 1) := by decide +kernel
theorem dX8_init_89 : decode cX8_init 89 = .ok (.aload_n 0, 1) := by decide +kernel
theorem dX8_init_90 : decode cX8_init 90 = .ok (.getfield 45, 3) := by decide +kernel
theorem dX8_init_93 : decode cX8_init 93 = .ok (.arraylength, 1) := by decide +kernel
theorem dX8_init_94 : decode cX8_init 94 = .ok (.if_icmp .ge 22, 3) := by decide +kernel
theorem dX8_init_97 : decode cX8_init 97 = .ok (.aload_n 0, 1) := by decide +kernel
theorem dX8_init_98 : decode cX8_init 98 = .ok (.getfield 45, 3) := by decide +kernel
theorem dX8_init_101 : decode cX8_init 101 = .ok (.iload_n 1, 1) := by decide +kernel
theorem dX8_init_102 : decode cX8_init 102 = .ok (.new 43, 3) := by decide +kernel
theorem dX8_init_105 : decode cX8_init 105 = .ok (.dup, 1) := by decide +kernel
theorem dX8_init_106 : decode cX8_init 106 = .ok (.invokespecial 53, 3) := by decide +kernel
theorem dX8_init_109 : decode cX8_init 109 = .ok (.aastore, 1) := by decide +kernel
theorem dX8_init_110 : decode cX8_init 110 = .ok (.iinc 1 1, 3) := by decide +kernel
theorem dX8_init_113 : decode cX8_init 113 = .ok (.goto (-25), 3) := by decide +kernel
theorem dX8_init_116 : decode cX8_init 116 = .ok (.return_, 1) := by decide +kernel
theorem dX8_ofCell_0 : decode cX8_ofCell 0 = .ok (.iload_n 1, 1) := by decide +kernel
theorem dX8_ofCell_1 : decode cX8_ofCell 1 = .ok (.iconst 0, 1) := by decide +kernel
theorem dX8_ofCell_2 : decode cX8_ofCell 2 = .ok (.bipush 23, 2) := by decide +kernel
theorem dX8_ofCell_4 : decode cX8_ofCell 4 = .ok (.invokestatic 54, 3) := by decide +kernel
theorem dX8_ofCell_7 : decode cX8_ofCell 7 = .ok (.ifCond .eq 10, 3) := by decide +kernel
theorem dX8_ofCell_10 : decode cX8_ofCell 10 = .ok (.aload_n 0, 1) := by decide +kernel
theorem dX8_ofCell_11 : decode cX8_ofCell 11 = .ok (.ldc 58, 2) := by decide +kernel
theorem dX8_ofCell_13 : decode cX8_ofCell 13 = .ok (.invokevirtual 59, 3) := by decide +kernel
theorem dX8_ofCell_16 : decode cX8_ofCell 16 = .ok (.ireturn, 1) := by decide +kernel
theorem dX8_ofCell_17 : decode cX8_ofCell 17 = .ok (.iload_n 2, 1) := by decide +kernel
theorem dX8_ofCell_18 : decode cX8_ofCell 18 = .ok (.tableswitch 89 0 3 #[30, 48, 67, 78], 30) := by decide +kernel
theorem dX8_ofCell_48 : decode cX8_ofCell 48 = .ok (.aload_n 0, 1) := by decide +kernel
theorem dX8_ofCell_49 : decode cX8_ofCell 49 = .ok (.getfield 12, 3) := by decide +kernel
theorem dX8_ofCell_52 : decode cX8_ofCell 52 = .ok (.getfield 63, 3) := by decide +kernel
theorem dX8_ofCell_55 : decode cX8_ofCell 55 = .ok (.bipush 16, 2) := by decide +kernel
theorem dX8_ofCell_57 : decode cX8_ofCell 57 = .ok (.irem, 1) := by decide +kernel
theorem dX8_ofCell_58 : decode cX8_ofCell 58 = .ok (.invokestatic 67, 3) := by decide +kernel
theorem dX8_ofCell_61 : decode cX8_ofCell 61 = .ok (.iload_n 1, 1) := by decide +kernel
theorem dX8_ofCell_62 : decode cX8_ofCell 62 = .ok (.ishr, 1) := by decide +kernel
theorem dX8_ofCell_63 : decode cX8_ofCell 63 = .ok (.iconst 1, 1) := by decide +kernel
theorem dX8_ofCell_64 : decode cX8_ofCell 64 = .ok (.iand, 1) := by decide +kernel
theorem dX8_ofCell_65 : decode cX8_ofCell 65 = .ok (.ireturn, 1) := by decide +kernel
theorem dX8_ofCell_66 : decode cX8_ofCell 66 = .ok (.aload_n 0, 1) := by decide +kernel
theorem dX8_ofCell_67 : decode cX8_ofCell 67 = .ok (.getfield 12, 3) := by decide +kernel
theorem dX8_ofCell_70 : decode cX8_ofCell 70 = .ok (.aload_n 0, 1) := by decide +kernel
theorem dX8_ofCell_71 : decode cX8_ofCell 71 = .ok (.getfield 12, 3) := by decide +kernel
theorem dX8_ofCell_74 : decode cX8_ofCell 74 = .ok (.getfield 63, 3) := by decide +kernel
theorem dX8_ofCell_77 : decode cX8_ofCell 77 = .ok (.invokevirtual 70, 3) := by decide +kernel
theorem dX8_ofCell_80 : decode cX8_ofCell 80 = .ok (.iload_n 1, 1) := by decide +kernel
theorem dX8_ofCell_81 : decode cX8_ofCell 81 = .ok (.ishr, 1) := by decide +kernel
theorem dX8_ofCell_82 : decode cX8_ofCell 82 = .ok (.iconst 1, 1) := by decide +kernel
theorem dX8_ofCell_83 : decode cX8_ofCell 83 = .ok (.iand, 1) := by decide +kernel
theorem dX8_ofCell_84 : decode cX8_ofCell 84 = .ok (.ireturn, 1) := by decide +kernel
theorem dX8_ofCell_85 : decode cX8_ofCell 85 = .ok (.aload_n 0, 1) := by decide +kernel
theorem dX8_ofCell_86 : decode cX8_ofCell 86 = .ok (.getfield 12, 3) := by decide +kernel
theorem dX8_ofCell_89 : decode cX8_ofCell 89 = .ok (.iconst 1, 1) := by decide +kernel
theorem dX8_ofCell_90 : decode cX8_ofCell 90 = .ok (.iload_n 1, 1) := by decide +kernel
theorem dX8_ofCell_91 : decode cX8_ofCell 91 = .ok (.ishl, 1) := by decide +kernel
theorem dX8_ofCell_92 : decode cX8_ofCell 92 = .ok (.invokevirtual 73, 3) := by decide +kernel
theorem dX8_ofCell_95 : decode cX8_ofCell 95 = .ok (.ireturn, 1) := by decide +kernel
theorem dX8_ofCell_96 : decode cX8_ofCell 96 = .ok (.aload_n 0, 1) := by decide +kernel
theorem dX8_ofCell_97 : decode cX8_ofCell 97 = .ok (.getfield 12, 3) := by decide +kernel
theorem dX8_ofCell_100 : decode cX8_ofCell 100 = .ok (.iconst 1, 1) := by decide +kernel
theorem dX8_ofCell_101 : decode cX8_ofCell 101 = .ok (.iload_n 1, 1) := by decide +kernel
theorem dX8_ofCell_102 : decode cX8_ofCell 102 = .ok (.ishl, 1) := by decide +kernel
theorem dX8_ofCell_103 : decode cX8_ofCell 103 = .ok (.invokevirtual 76, 3) := by decide +kernel
theorem dX8_ofCell_106 : decode cX8_ofCell 106 = .ok (.ireturn, 1) := by decide +kernel
theorem dX8_ofCell_107 : decode cX8_ofCell 107 = .ok (.aload_n 0, 1) := by decide +kernel
theorem dX8_ofCell_108 : decode cX8_ofCell 108 = .ok (.ldc 58, 2) := by decide +kernel
theorem dX8_ofCell_110 : decode cX8_ofCell 110 = .ok (.invokevirtual 59, 3) := by decide +kernel
theorem dX8_ofCell_113 : decode cX8_ofCell 113 = .ok (.ireturn, 1) := by decide +kernel
theorem dX8_lit_0 : decode cX8_lit 0 = .ok (.iload_n 1, 1) := by decide +kernel
theorem dX8_lit_1 : decode cX8_lit 1 = .ok (.iconst 0, 1) := by decide +kernel
theorem dX8_lit_2 : decode cX8_lit 2 = .ok (.bipush 15, 2) := by decide +kernel
theorem dX8_lit_4 : decode cX8_lit 4 = .ok (.invokestatic 54, 3) := by decide +kernel
theorem dX8_lit_7 : decode cX8_lit 7 = .ok (.ifCond .eq 12, 3) := by decide +kernel
theorem dX8_lit_10 : decode cX8_lit 10 = .ok (.aload_n 0, 1) := by decide +kernel
theorem dX8_lit_11 : decode cX8_lit 11 = .ok (.ldc 58, 2) := by decide +kernel
theorem dX8_lit_13 : decode cX8_lit 13 = .ok (.invokevirtual 59, 3) := by decide +kernel
theorem dX8_lit_16 : decode cX8_lit 16 = .ok (.goto 7, 3) := by decide +kernel
theorem dX8_lit_19 : decode cX8_lit 19 = .ok (.iload_n 1, 1) := by decide +kernel
theorem dX8_lit_20 : decode cX8_lit 20 = .ok (.invokestatic 67, 3) := by decide +kernel
theorem dX8_lit_23 : decode cX8_lit 23 = .ok (.ireturn, 1) := by decide +kernel
theorem dX8_weather_0 : decode cX8_weather 0 = .ok (.iload_n 1, 1) := by decide +kernel
theorem dX8_weather_1 : decode cX8_weather 1 = .ok (.iconst 0, 1) := by decide +kernel
theorem dX8_weather_2 : decode cX8_weather 2 = .ok (.bipush 9, 2) := by decide +kernel
theorem dX8_weather_4 : decode cX8_weather 4 = .ok (.invokestatic 54, 3) := by decide +kernel
theorem dX8_weather_7 : decode cX8_weather 7 = .ok (.ifCond .eq 10, 3) := by decide +kernel
theorem dX8_weather_10 : decode cX8_weather 10 = .ok (.aload_n 0, 1) := by decide +kernel
theorem dX8_weather_11 : decode cX8_weather 11 = .ok (.ldc 58, 2) := by decide +kernel
theorem dX8_weather_13 : decode cX8_weather 13 = .ok (.invokevirtual 59, 3) := by decide +kernel
theorem dX8_weather_16 : decode cX8_weather 16 = .ok (.ireturn, 1) := by decide +kernel
theorem dX8_weather_17 : decode cX8_weather 17 = .ok (.aload_n 0, 1) := by decide +kernel
theorem dX8_weather_18 : decode cX8_weather 18 = .ok (.getfield 12, 3) := by decide +kernel
theorem dX8_weather_21 : decode cX8_weather 21 = .ok (.getfield 79, 3) := by decide +kernel
theorem dX8_weather_24 : decode cX8_weather 24 = .ok (.istore_n 2, 1) := by decide +kernel
theorem dX8_weather_25 : decode cX8_weather 25 = .ok (.aload_n 0, 1) := by decide +kernel
theorem dX8_weather_26 : decode cX8_weather 26 = .ok (.getfield 12, 3) := by decide +kernel
theorem dX8_weather_29 : decode cX8_weather 29 = .ok (.iload_n 1, 1) := by decide +kernel
theorem dX8_weather_30 : decode cX8_weather 30 = .ok (.putfield 79, 3) := by decide +kernel
theorem dX8_weather_33 : decode cX8_weather 33 = .ok (.iload_n 2, 1) := by decide +kernel
theorem dX8_weather_34 : decode cX8_weather 34 = .ok (.ireturn, 1) := by decide +kernel
theorem dX8_tenant_0 : decode cX8_tenant 0 = .ok (.iload_n 1, 1) := by decide +kernel
theorem dX8_tenant_1 : decode cX8_tenant 1 = .ok (.invokestatic 82, 3) := by decide +kernel
theorem dX8_tenant_4 : decode cX8_tenant 4 = .ok (.ifCond .eq 10, 3) := by decide +kernel
theorem dX8_tenant_7 : decode cX8_tenant 7 = .ok (.aload_n 0, 1) := by decide +kernel
theorem dX8_tenant_8 : decode cX8_tenant 8 = .ok (.ldc 58, 2) := by decide +kernel
theorem dX8_tenant_10 : decode cX8_tenant 10 = .ok (.invokevirtual 59, 3) := by decide +kernel
theorem dX8_tenant_13 : decode cX8_tenant 13 = .ok (.ireturn, 1) := by decide +kernel
theorem dX8_tenant_14 : decode cX8_tenant 14 = .ok (.aload_n 0, 1) := by decide +kernel
theorem dX8_tenant_15 : decode cX8_tenant 15 = .ok (.getfield 12, 3) := by decide +kernel
theorem dX8_tenant_18 : decode cX8_tenant 18 = .ok (.iload_n 1, 1) := by decide +kernel
theorem dX8_tenant_19 : decode cX8_tenant 19 = .ok (.bipush 10, 2) := by decide +kernel
theorem dX8_tenant_21 : decode cX8_tenant 21 = .ok (.idiv, 1) := by decide +kernel
theorem dX8_tenant_22 : decode cX8_tenant 22 = .ok (.iload_n 1, 1) := by decide +kernel
theorem dX8_tenant_23 : decode cX8_tenant 23 = .ok (.bipush 10, 2) := by decide +kernel
theorem dX8_tenant_25 : decode cX8_tenant 25 = .ok (.irem, 1) := by decide +kernel
theorem dX8_tenant_26 : decode cX8_tenant 26 = .ok (.invokevirtual 86, 3) := by decide +kernel
theorem dX8_tenant_29 : decode cX8_tenant 29 = .ok (.istore_n 2, 1) := by decide +kernel
theorem dX8_tenant_30 : decode cX8_tenant 30 = .ok (.iload_n 2, 1) := by decide +kernel
theorem dX8_tenant_31 : decode cX8_tenant 31 = .ok (.ifCond .ge 12, 3) := by decide +kernel
theorem dX8_tenant_34 : decode cX8_tenant 34 = .ok (.aload_n 0, 1) := by decide +kernel
theorem dX8_tenant_35 : decode cX8_tenant 35 = .ok (.ldc 90, 2) := by decide +kernel
theorem dX8_tenant_37 : decode cX8_tenant 37 = .ok (.invokevirtual 59, 3) := by decide +kernel
theorem dX8_tenant_40 : decode cX8_tenant 40 = .ok (.goto 4, 3) := by decide +kernel
theorem dX8_tenant_43 : decode cX8_tenant 43 = .ok (.iload_n 2, 1) := by decide +kernel
theorem dX8_tenant_44 : decode cX8_tenant 44 = .ok (.ireturn, 1) := by decide +kernel
theorem dX8_ofTenant_0 : decode cX8_ofTenant 0 = .ok (.aload_n 0, 1) := by decide +kernel
theorem dX8_ofTenant_1 : decode cX8_ofTenant 1 = .ok (.getfield 12, 3) := by decide +kernel
theorem dX8_ofTenant_4 : decode cX8_ofTenant 4 = .ok (.iload_n 1, 1) := by decide +kernel
theorem dX8_ofTenant_5 : decode cX8_ofTenant 5 = .ok (.invokevirtual 91, 3) := by decide +kernel
theorem dX8_ofTenant_8 : decode cX8_ofTenant 8 = .ok (.astore_n 3, 1) := by decide +kernel
theorem dX8_ofTenant_9 : decode cX8_ofTenant 9 = .ok (.aload_n 3, 1) := by decide +kernel
theorem dX8_ofTenant_10 : decode cX8_ofTenant 10 = .ok (.ifnonnull 10, 3) := by decide +kernel
theorem dX8_ofTenant_13 : decode cX8_ofTenant 13 = .ok (.aload_n 0, 1) := by decide +kernel
theorem dX8_ofTenant_14 : decode cX8_ofTenant 14 = .ok (.ldc 58, 2) := by decide +kernel
theorem dX8_ofTenant_16 : decode cX8_ofTenant 16 = .ok (.invokevirtual 59, 3) := by decide +kernel
theorem dX8_ofTenant_19 : decode cX8_ofTenant 19 = .ok (.ireturn, 1) := by decide +kernel
theorem dX8_ofTenant_20 : decode cX8_ofTenant 20 = .ok (.iload_n 2, 1) := by decide +kernel
theorem dX8_ofTenant_21 : decode cX8_ofTenant 21 = .ok (.tableswitch 147 0 7 #[47, 52, 57, 62, 70, 83, 103, 123], 47) := by decide +kernel
theorem dX8_ofTenant_68 : decode cX8_ofTenant 68 = .ok (.aload_n 3, 1) := by decide +kernel
theorem dX8_ofTenant_69 : decode cX8_ofTenant 69 = .ok (.getfield 95, 3) := by decide +kernel
theorem dX8_ofTenant_72 : decode cX8_ofTenant 72 = .ok (.ireturn, 1) := by decide +kernel
theorem dX8_ofTenant_73 : decode cX8_ofTenant 73 = .ok (.aload_n 3, 1) := by decide +kernel
theorem dX8_ofTenant_74 : decode cX8_ofTenant 74 = .ok (.getfield 100, 3) := by decide +kernel
theorem dX8_ofTenant_77 : decode cX8_ofTenant 77 = .ok (.ireturn, 1) := by decide +kernel
theorem dX8_ofTenant_78 : decode cX8_ofTenant 78 = .ok (.aload_n 3, 1) := by decide +kernel
theorem dX8_ofTenant_79 : decode cX8_ofTenant 79 = .ok (.getfield 103, 3) := by decide +kernel
theorem dX8_ofTenant_82 : decode cX8_ofTenant 82 = .ok (.ireturn, 1) := by decide +kernel
theorem dX8_ofTenant_83 : decode cX8_ofTenant 83 = .ok (.aload_n 3, 1) := by decide +kernel
theorem dX8_ofTenant_84 : decode cX8_ofTenant 84 = .ok (.getfield 106, 3) := by decide +kernel
theorem dX8_ofTenant_87 : decode cX8_ofTenant 87 = .ok (.ldc 109, 2) := by decide +kernel
theorem dX8_ofTenant_89 : decode cX8_ofTenant 89 = .ok (.iadd, 1) := by decide +kernel
theorem dX8_ofTenant_90 : decode cX8_ofTenant 90 = .ok (.ireturn, 1) := by decide +kernel
theorem dX8_ofTenant_91 : decode cX8_ofTenant 91 = .ok (.aload_n 3, 1) := by decide +kernel
theorem dX8_ofTenant_92 : decode cX8_ofTenant 92 = .ok (.getfield 110, 3) := by decide +kernel
theorem dX8_ofTenant_95 : decode cX8_ofTenant 95 = .ok (.ifCond .eq 7, 3) := by decide +kernel
theorem dX8_ofTenant_98 : decode cX8_ofTenant 98 = .ok (.iconst 1, 1) := by decide +kernel
theorem dX8_ofTenant_99 : decode cX8_ofTenant 99 = .ok (.goto 4, 3) := by decide +kernel
theorem dX8_ofTenant_102 : decode cX8_ofTenant 102 = .ok (.iconst 0, 1) := by decide +kernel
theorem dX8_ofTenant_103 : decode cX8_ofTenant 103 = .ok (.ireturn, 1) := by decide +kernel
theorem dX8_ofTenant_104 : decode cX8_ofTenant 104 = .ok (.aload_n 3, 1) := by decide +kernel
theorem dX8_ofTenant_105 : decode cX8_ofTenant 105 = .ok (.aload_n 0, 1) := by decide +kernel
theorem dX8_ofTenant_106 : decode cX8_ofTenant 106 = .ok (.getfield 12, 3) := by decide +kernel
theorem dX8_ofTenant_109 : decode cX8_ofTenant 109 = .ok (.getfield 63, 3) := by decide +kernel
theorem dX8_ofTenant_112 : decode cX8_ofTenant 112 = .ok (.invokevirtual 114, 3) := by decide +kernel
theorem dX8_ofTenant_115 : decode cX8_ofTenant 115 = .ok (.ifCond .eq 7, 3) := by decide +kernel
theorem dX8_ofTenant_118 : decode cX8_ofTenant 118 = .ok (.iconst 1, 1) := by decide +kernel
theorem dX8_ofTenant_119 : decode cX8_ofTenant 119 = .ok (.goto 4, 3) := by decide +kernel
theorem dX8_ofTenant_122 : decode cX8_ofTenant 122 = .ok (.iconst 0, 1) := by decide +kernel
theorem dX8_ofTenant_123 : decode cX8_ofTenant 123 = .ok (.ireturn, 1) := by decide +kernel
theorem dX8_ofTenant_124 : decode cX8_ofTenant 124 = .ok (.aload_n 3, 1) := by decide +kernel
theorem dX8_ofTenant_125 : decode cX8_ofTenant 125 = .ok (.getfield 103, 3) := by decide +kernel
theorem dX8_ofTenant_128 : decode cX8_ofTenant 128 = .ok (.aload_n 0, 1) := by decide +kernel
theorem dX8_ofTenant_129 : decode cX8_ofTenant 129 = .ok (.getfield 12, 3) := by decide +kernel
theorem dX8_ofTenant_132 : decode cX8_ofTenant 132 = .ok (.aload_n 0, 1) := by decide +kernel
theorem dX8_ofTenant_133 : decode cX8_ofTenant 133 = .ok (.getfield 12, 3) := by decide +kernel
theorem dX8_ofTenant_136 : decode cX8_ofTenant 136 = .ok (.getfield 63, 3) := by decide +kernel
theorem dX8_ofTenant_139 : decode cX8_ofTenant 139 = .ok (.invokevirtual 70, 3) := by decide +kernel
theorem dX8_ofTenant_142 : decode cX8_ofTenant 142 = .ok (.iand, 1) := by decide +kernel
theorem dX8_ofTenant_143 : decode cX8_ofTenant 143 = .ok (.ireturn, 1) := by decide +kernel
theorem dX8_ofTenant_144 : decode cX8_ofTenant 144 = .ok (.aload_n 3, 1) := by decide +kernel
theorem dX8_ofTenant_145 : decode cX8_ofTenant 145 = .ok (.aload_n 0, 1) := by decide +kernel
theorem dX8_ofTenant_146 : decode cX8_ofTenant 146 = .ok (.getfield 12, 3) := by decide +kernel
theorem dX8_ofTenant_149 : decode cX8_ofTenant 149 = .ok (.aload_n 3, 1) := by decide +kernel
theorem dX8_ofTenant_150 : decode cX8_ofTenant 150 = .ok (.getfield 103, 3) := by decide +kernel
theorem dX8_ofTenant_153 : decode cX8_ofTenant 153 = .ok (.invokevirtual 73, 3) := by decide +kernel
theorem dX8_ofTenant_156 : decode cX8_ofTenant 156 = .ok (.aload_n 0, 1) := by decide +kernel
theorem dX8_ofTenant_157 : decode cX8_ofTenant 157 = .ok (.getfield 12, 3) := by decide +kernel
theorem dX8_ofTenant_160 : decode cX8_ofTenant 160 = .ok (.iload_n 1, 1) := by decide +kernel
theorem dX8_ofTenant_161 : decode cX8_ofTenant 161 = .ok (.invokevirtual 117, 3) := by decide +kernel
theorem dX8_ofTenant_164 : decode cX8_ofTenant 164 = .ok (.invokevirtual 120, 3) := by decide +kernel
theorem dX8_ofTenant_167 : decode cX8_ofTenant 167 = .ok (.ireturn, 1) := by decide +kernel
theorem dX8_ofTenant_168 : decode cX8_ofTenant 168 = .ok (.aload_n 0, 1) := by decide +kernel
theorem dX8_ofTenant_169 : decode cX8_ofTenant 169 = .ok (.ldc 58, 2) := by decide +kernel
theorem dX8_ofTenant_171 : decode cX8_ofTenant 171 = .ok (.invokevirtual 59, 3) := by decide +kernel
theorem dX8_ofTenant_174 : decode cX8_ofTenant 174 = .ok (.ireturn, 1) := by decide +kernel
theorem dX8_become_0 : decode cX8_become 0 = .ok (.aload_n 0, 1) := by decide +kernel
theorem dX8_become_1 : decode cX8_become 1 = .ok (.getfield 12, 3) := by decide +kernel
theorem dX8_become_4 : decode cX8_become 4 = .ok (.iload_n 1, 1) := by decide +kernel
theorem dX8_become_5 : decode cX8_become 5 = .ok (.invokevirtual 91, 3) := by decide +kernel
theorem dX8_become_8 : decode cX8_become 8 = .ok (.astore_n 3, 1) := by decide +kernel
theorem dX8_become_9 : decode cX8_become 9 = .ok (.aload_n 3, 1) := by decide +kernel
theorem dX8_become_10 : decode cX8_become 10 = .ok (.ifnull 10, 3) := by decide +kernel
theorem dX8_become_13 : decode cX8_become 13 = .ok (.iload_n 2, 1) := by decide +kernel
theorem dX8_become_14 : decode cX8_become 14 = .ok (.invokestatic 82, 3) := by decide +kernel
theorem dX8_become_17 : decode cX8_become 17 = .ok (.ifCond .eq 10, 3) := by decide +kernel
theorem dX8_become_20 : decode cX8_become 20 = .ok (.aload_n 0, 1) := by decide +kernel
theorem dX8_become_21 : decode cX8_become 21 = .ok (.ldc 58, 2) := by decide +kernel
theorem dX8_become_23 : decode cX8_become 23 = .ok (.invokevirtual 59, 3) := by decide +kernel
theorem dX8_become_26 : decode cX8_become 26 = .ok (.ireturn, 1) := by decide +kernel
theorem dX8_become_27 : decode cX8_become 27 = .ok (.aload_n 3, 1) := by decide +kernel
theorem dX8_become_28 : decode cX8_become 28 = .ok (.getfield 95, 3) := by decide +kernel
theorem dX8_become_31 : decode cX8_become 31 = .ok (.istore 4, 2) := by decide +kernel
theorem dX8_become_33 : decode cX8_become 33 = .ok (.aload_n 3, 1) := by decide +kernel
theorem dX8_become_34 : decode cX8_become 34 = .ok (.iload_n 2, 1) := by decide +kernel
theorem dX8_become_35 : decode cX8_become 35 = .ok (.bipush 10, 2) := by decide +kernel
theorem dX8_become_37 : decode cX8_become 37 = .ok (.idiv, 1) := by decide +kernel
theorem dX8_become_38 : decode cX8_become 38 = .ok (.putfield 95, 3) := by decide +kernel
theorem dX8_become_41 : decode cX8_become 41 = .ok (.aload_n 3, 1) := by decide +kernel
theorem dX8_become_42 : decode cX8_become 42 = .ok (.iload_n 2, 1) := by decide +kernel
theorem dX8_become_43 : decode cX8_become 43 = .ok (.bipush 10, 2) := by decide +kernel
theorem dX8_become_45 : decode cX8_become 45 = .ok (.irem, 1) := by decide +kernel
theorem dX8_become_46 : decode cX8_become 46 = .ok (.putfield 100, 3) := by decide +kernel
theorem dX8_become_49 : decode cX8_become 49 = .ok (.iload 4, 2) := by decide +kernel
theorem dX8_become_51 : decode cX8_become 51 = .ok (.ireturn, 1) := by decide +kernel
theorem dX8_as_0 : decode cX8_as 0 = .ok (.aload_n 0, 1) := by decide +kernel
theorem dX8_as_1 : decode cX8_as 1 = .ok (.getfield 12, 3) := by decide +kernel
theorem dX8_as_4 : decode cX8_as 4 = .ok (.iload_n 1, 1) := by decide +kernel
theorem dX8_as_5 : decode cX8_as 5 = .ok (.invokevirtual 91, 3) := by decide +kernel
theorem dX8_as_8 : decode cX8_as 8 = .ok (.astore_n 3, 1) := by decide +kernel
theorem dX8_as_9 : decode cX8_as 9 = .ok (.aload_n 3, 1) := by decide +kernel
theorem dX8_as_10 : decode cX8_as 10 = .ok (.ifnull 17, 3) := by decide +kernel
theorem dX8_as_13 : decode cX8_as 13 = .ok (.iload_n 2, 1) := by decide +kernel
theorem dX8_as_14 : decode cX8_as 14 = .ok (.iconst 0, 1) := by decide +kernel
theorem dX8_as_15 : decode cX8_as 15 = .ok (.getstatic 123, 3) := by decide +kernel
theorem dX8_as_18 : decode cX8_as 18 = .ok (.arraylength, 1) := by decide +kernel
theorem dX8_as_19 : decode cX8_as 19 = .ok (.iconst 1, 1) := by decide +kernel
theorem dX8_as_20 : decode cX8_as 20 = .ok (.isub, 1) := by decide +kernel
theorem dX8_as_21 : decode cX8_as 21 = .ok (.invokestatic 54, 3) := by decide +kernel
theorem dX8_as_24 : decode cX8_as 24 = .ok (.ifCond .eq 10, 3) := by decide +kernel
theorem dX8_as_27 : decode cX8_as 27 = .ok (.aload_n 0, 1) := by decide +kernel
theorem dX8_as_28 : decode cX8_as 28 = .ok (.ldc 58, 2) := by decide +kernel
theorem dX8_as_30 : decode cX8_as 30 = .ok (.invokevirtual 59, 3) := by decide +kernel
theorem dX8_as_33 : decode cX8_as 33 = .ok (.ireturn, 1) := by decide +kernel
theorem dX8_as_34 : decode cX8_as 34 = .ok (.aload_n 3, 1) := by decide +kernel
theorem dX8_as_35 : decode cX8_as 35 = .ok (.getfield 95, 3) := by decide +kernel
theorem dX8_as_38 : decode cX8_as 38 = .ok (.iload_n 2, 1) := by decide +kernel
theorem dX8_as_39 : decode cX8_as 39 = .ok (.invokestatic 126, 3) := by decide +kernel
theorem dX8_as_42 : decode cX8_as 42 = .ok (.ifCond .eq 10, 3) := by decide +kernel
theorem dX8_as_45 : decode cX8_as 45 = .ok (.aload_n 3, 1) := by decide +kernel
theorem dX8_as_46 : decode cX8_as 46 = .ok (.getfield 100, 3) := by decide +kernel
theorem dX8_as_49 : decode cX8_as 49 = .ok (.goto 9, 3) := by decide +kernel
theorem dX8_as_52 : decode cX8_as 52 = .ok (.aload_n 0, 1) := by decide +kernel
theorem dX8_as_53 : decode cX8_as 53 = .ok (.ldc 130, 2) := by decide +kernel
theorem dX8_as_55 : decode cX8_as 55 = .ok (.invokevirtual 59, 3) := by decide +kernel
theorem dX8_as_58 : decode cX8_as 58 = .ok (.ireturn, 1) := by decide +kernel
theorem dX8_lease_0 : decode cX8_lease 0 = .ok (.aload_n 0, 1) := by decide +kernel
theorem dX8_lease_1 : decode cX8_lease 1 = .ok (.getfield 12, 3) := by decide +kernel
theorem dX8_lease_4 : decode cX8_lease 4 = .ok (.iload_n 1, 1) := by decide +kernel
theorem dX8_lease_5 : decode cX8_lease 5 = .ok (.invokevirtual 91, 3) := by decide +kernel
theorem dX8_lease_8 : decode cX8_lease 8 = .ok (.astore_n 3, 1) := by decide +kernel
theorem dX8_lease_9 : decode cX8_lease 9 = .ok (.aload_n 3, 1) := by decide +kernel
theorem dX8_lease_10 : decode cX8_lease 10 = .ok (.ifnull 10, 3) := by decide +kernel
theorem dX8_lease_13 : decode cX8_lease 13 = .ok (.iload_n 2, 1) := by decide +kernel
theorem dX8_lease_14 : decode cX8_lease 14 = .ok (.invokestatic 131, 3) := by decide +kernel
theorem dX8_lease_17 : decode cX8_lease 17 = .ok (.ifCond .eq 10, 3) := by decide +kernel
theorem dX8_lease_20 : decode cX8_lease 20 = .ok (.aload_n 0, 1) := by decide +kernel
theorem dX8_lease_21 : decode cX8_lease 21 = .ok (.ldc 58, 2) := by decide +kernel
theorem dX8_lease_23 : decode cX8_lease 23 = .ok (.invokevirtual 59, 3) := by decide +kernel
theorem dX8_lease_26 : decode cX8_lease 26 = .ok (.ireturn, 1) := by decide +kernel
theorem dX8_lease_27 : decode cX8_lease 27 = .ok (.aload_n 3, 1) := by decide +kernel
theorem dX8_lease_28 : decode cX8_lease 28 = .ok (.getfield 110, 3) := by decide +kernel
theorem dX8_lease_31 : decode cX8_lease 31 = .ok (.ifCond .eq 10, 3) := by decide +kernel
theorem dX8_lease_34 : decode cX8_lease 34 = .ok (.aload_n 0, 1) := by decide +kernel
theorem dX8_lease_35 : decode cX8_lease 35 = .ok (.ldc 134, 2) := by decide +kernel
theorem dX8_lease_37 : decode cX8_lease 37 = .ok (.invokevirtual 59, 3) := by decide +kernel
theorem dX8_lease_40 : decode cX8_lease 40 = .ok (.ireturn, 1) := by decide +kernel
theorem dX8_lease_41 : decode cX8_lease 41 = .ok (.aload_n 3, 1) := by decide +kernel
theorem dX8_lease_42 : decode cX8_lease 42 = .ok (.getfield 103, 3) := by decide +kernel
theorem dX8_lease_45 : decode cX8_lease 45 = .ok (.istore 4, 2) := by decide +kernel
theorem dX8_lease_47 : decode cX8_lease 47 = .ok (.aload_n 3, 1) := by decide +kernel
theorem dX8_lease_48 : decode cX8_lease 48 = .ok (.iload_n 2, 1) := by decide +kernel
theorem dX8_lease_49 : decode cX8_lease 49 = .ok (.putfield 103, 3) := by decide +kernel
theorem dX8_lease_52 : decode cX8_lease 52 = .ok (.iload 4, 2) := by decide +kernel
theorem dX8_lease_54 : decode cX8_lease 54 = .ok (.ireturn, 1) := by decide +kernel
theorem dX8_purse_0 : decode cX8_purse 0 = .ok (.aload_n 0, 1) := by decide +kernel
theorem dX8_purse_1 : decode cX8_purse 1 = .ok (.getfield 12, 3) := by decide +kernel
theorem dX8_purse_4 : decode cX8_purse 4 = .ok (.iload_n 1, 1) := by decide +kernel
theorem dX8_purse_5 : decode cX8_purse 5 = .ok (.invokevirtual 91, 3) := by decide +kernel
theorem dX8_purse_8 : decode cX8_purse 8 = .ok (.astore_n 3, 1) := by decide +kernel
theorem dX8_purse_9 : decode cX8_purse 9 = .ok (.aload_n 3, 1) := by decide +kernel
theorem dX8_purse_10 : decode cX8_purse 10 = .ok (.ifnull 16, 3) := by decide +kernel
theorem dX8_purse_13 : decode cX8_purse 13 = .ok (.iload_n 2, 1) := by decide +kernel
theorem dX8_purse_14 : decode cX8_purse 14 = .ok (.sipush (-9999), 3) := by decide +kernel
theorem dX8_purse_17 : decode cX8_purse 17 = .ok (.sipush 9999, 3) := by decide +kernel
theorem dX8_purse_20 : decode cX8_purse 20 = .ok (.invokestatic 54, 3) := by decide +kernel
theorem dX8_purse_23 : decode cX8_purse 23 = .ok (.ifCond .eq 10, 3) := by decide +kernel
theorem dX8_purse_26 : decode cX8_purse 26 = .ok (.aload_n 0, 1) := by decide +kernel
theorem dX8_purse_27 : decode cX8_purse 27 = .ok (.ldc 58, 2) := by decide +kernel
theorem dX8_purse_29 : decode cX8_purse 29 = .ok (.invokevirtual 59, 3) := by decide +kernel
theorem dX8_purse_32 : decode cX8_purse 32 = .ok (.ireturn, 1) := by decide +kernel
theorem dX8_purse_33 : decode cX8_purse 33 = .ok (.aload_n 3, 1) := by decide +kernel
theorem dX8_purse_34 : decode cX8_purse 34 = .ok (.getfield 106, 3) := by decide +kernel
theorem dX8_purse_37 : decode cX8_purse 37 = .ok (.istore 4, 2) := by decide +kernel
theorem dX8_purse_39 : decode cX8_purse 39 = .ok (.aload_n 3, 1) := by decide +kernel
theorem dX8_purse_40 : decode cX8_purse 40 = .ok (.iload_n 2, 1) := by decide +kernel
theorem dX8_purse_41 : decode cX8_purse 41 = .ok (.putfield 106, 3) := by decide +kernel
theorem dX8_purse_44 : decode cX8_purse 44 = .ok (.iload 4, 2) := by decide +kernel
theorem dX8_purse_46 : decode cX8_purse 46 = .ok (.ldc 109, 2) := by decide +kernel
theorem dX8_purse_48 : decode cX8_purse 48 = .ok (.iadd, 1) := by decide +kernel
theorem dX8_purse_49 : decode cX8_purse 49 = .ok (.ireturn, 1) := by decide +kernel
theorem dX8_pardon_0 : decode cX8_pardon 0 = .ok (.aload_n 0, 1) := by decide +kernel
theorem dX8_pardon_1 : decode cX8_pardon 1 = .ok (.getfield 12, 3) := by decide +kernel
theorem dX8_pardon_4 : decode cX8_pardon 4 = .ok (.iload_n 1, 1) := by decide +kernel
theorem dX8_pardon_5 : decode cX8_pardon 5 = .ok (.invokevirtual 91, 3) := by decide +kernel
theorem dX8_pardon_8 : decode cX8_pardon 8 = .ok (.astore_n 2, 1) := by decide +kernel
theorem dX8_pardon_9 : decode cX8_pardon 9 = .ok (.aload_n 2, 1) := by decide +kernel
theorem dX8_pardon_10 : decode cX8_pardon 10 = .ok (.ifnonnull 10, 3) := by decide +kernel
theorem dX8_pardon_13 : decode cX8_pardon 13 = .ok (.aload_n 0, 1) := by decide +kernel
theorem dX8_pardon_14 : decode cX8_pardon 14 = .ok (.ldc 58, 2) := by decide +kernel
theorem dX8_pardon_16 : decode cX8_pardon 16 = .ok (.invokevirtual 59, 3) := by decide +kernel
theorem dX8_pardon_19 : decode cX8_pardon 19 = .ok (.ireturn, 1) := by decide +kernel
theorem dX8_pardon_20 : decode cX8_pardon 20 = .ok (.aload_n 2, 1) := by decide +kernel
theorem dX8_pardon_21 : decode cX8_pardon 21 = .ok (.getfield 110, 3) := by decide +kernel
theorem dX8_pardon_24 : decode cX8_pardon 24 = .ok (.ifCond .ne 10, 3) := by decide +kernel
theorem dX8_pardon_27 : decode cX8_pardon 27 = .ok (.aload_n 0, 1) := by decide +kernel
theorem dX8_pardon_28 : decode cX8_pardon 28 = .ok (.ldc 134, 2) := by decide +kernel
theorem dX8_pardon_30 : decode cX8_pardon 30 = .ok (.invokevirtual 59, 3) := by decide +kernel
theorem dX8_pardon_33 : decode cX8_pardon 33 = .ok (.ireturn, 1) := by decide +kernel
theorem dX8_pardon_34 : decode cX8_pardon 34 = .ok (.aload_n 2, 1) := by decide +kernel
theorem dX8_pardon_35 : decode cX8_pardon 35 = .ok (.iconst 0, 1) := by decide +kernel
theorem dX8_pardon_36 : decode cX8_pardon 36 = .ok (.putfield 110, 3) := by decide +kernel
theorem dX8_pardon_39 : decode cX8_pardon 39 = .ok (.aload_n 2, 1) := by decide +kernel
theorem dX8_pardon_40 : decode cX8_pardon 40 = .ok (.iconst 0, 1) := by decide +kernel
theorem dX8_pardon_41 : decode cX8_pardon 41 = .ok (.putfield 106, 3) := by decide +kernel
theorem dX8_pardon_44 : decode cX8_pardon 44 = .ok (.aload_n 0, 1) := by decide +kernel
theorem dX8_pardon_45 : decode cX8_pardon 45 = .ok (.getfield 12, 3) := by decide +kernel
theorem dX8_pardon_48 : decode cX8_pardon 48 = .ok (.invokevirtual 135, 3) := by decide +kernel
theorem dX8_pardon_51 : decode cX8_pardon 51 = .ok (.ireturn, 1) := by decide +kernel
theorem dX8_feed_0 : decode cX8_feed 0 = .ok (.iload_n 3, 1) := by decide +kernel
theorem dX8_feed_1 : decode cX8_feed 1 = .ok (.iconst 1, 1) := by decide +kernel
theorem dX8_feed_2 : decode cX8_feed 2 = .ok (.bipush 8, 2) := by decide +kernel
theorem dX8_feed_4 : decode cX8_feed 4 = .ok (.invokestatic 54, 3) := by decide +kernel
theorem dX8_feed_7 : decode cX8_feed 7 = .ok (.ifCond .eq 10, 3) := by decide +kernel
theorem dX8_feed_10 : decode cX8_feed 10 = .ok (.aload_n 0, 1) := by decide +kernel
theorem dX8_feed_11 : decode cX8_feed 11 = .ok (.ldc 58, 2) := by decide +kernel
theorem dX8_feed_13 : decode cX8_feed 13 = .ok (.invokevirtual 59, 3) := by decide +kernel
theorem dX8_feed_16 : decode cX8_feed 16 = .ok (.ireturn, 1) := by decide +kernel
theorem dX8_feed_17 : decode cX8_feed 17 = .ok (.aload_n 0, 1) := by decide +kernel
theorem dX8_feed_18 : decode cX8_feed 18 = .ok (.getfield 12, 3) := by decide +kernel
theorem dX8_feed_21 : decode cX8_feed 21 = .ok (.getfield 139, 3) := by decide +kernel
theorem dX8_feed_24 : decode cX8_feed 24 = .ok (.getfield 143, 3) := by decide +kernel
theorem dX8_feed_27 : decode cX8_feed 27 = .ok (.iload_n 3, 1) := by decide +kernel
theorem dX8_feed_28 : decode cX8_feed 28 = .ok (.iadd, 1) := by decide +kernel
theorem dX8_feed_29 : decode cX8_feed 29 = .ok (.bipush 50, 2) := by decide +kernel
theorem dX8_feed_31 : decode cX8_feed 31 = .ok (.if_icmp .le 10, 3) := by decide +kernel
theorem dX8_feed_34 : decode cX8_feed 34 = .ok (.aload_n 0, 1) := by decide +kernel
theorem dX8_feed_35 : decode cX8_feed 35 = .ok (.ldc 90, 2) := by decide +kernel
theorem dX8_feed_37 : decode cX8_feed 37 = .ok (.invokevirtual 59, 3) := by decide +kernel
theorem dX8_feed_40 : decode cX8_feed 40 = .ok (.ireturn, 1) := by decide +kernel
theorem dX8_feed_41 : decode cX8_feed 41 = .ok (.iconst 0, 1) := by decide +kernel
theorem dX8_feed_42 : decode cX8_feed 42 = .ok (.istore 4, 2) := by decide +kernel
theorem dX8_feed_44 : decode cX8_feed 44 = .ok (.iload 4, 2) := by decide +kernel
theorem dX8_feed_46 : decode cX8_feed 46 = .ok (.iload_n 3, 1) := by decide +kernel
theorem dX8_feed_47 : decode cX8_feed 47 = .ok (.if_icmp .ge 32, 3) := by decide +kernel
theorem dX8_feed_50 : decode cX8_feed 50 = .ok (.aload_n 0, 1) := by decide +kernel
theorem dX8_feed_51 : decode cX8_feed 51 = .ok (.getfield 12, 3) := by decide +kernel
theorem dX8_feed_54 : decode cX8_feed 54 = .ok (.getfield 139, 3) := by decide +kernel
theorem dX8_feed_57 : decode cX8_feed 57 = .ok (.lload_n 1, 1) := by decide +kernel
theorem dX8_feed_58 : decode cX8_feed 58 = .ok (.bipush 8, 2) := by decide +kernel
theorem dX8_feed_60 : decode cX8_feed 60 = .ok (.iload 4, 2) := by decide +kernel
theorem dX8_feed_62 : decode cX8_feed 62 = .ok (.imul, 1) := by decide +kernel
theorem dX8_feed_63 : decode cX8_feed 63 = .ok (.lshr, 1) := by decide +kernel
theorem dX8_feed_64 : decode cX8_feed 64 = .ok (.ldc2_w 148, 3) := by decide +kernel
theorem dX8_feed_67 : decode cX8_feed 67 = .ok (.land, 1) := by decide +kernel
theorem dX8_feed_68 : decode cX8_feed 68 = .ok (.l2i, 1) := by decide +kernel
theorem dX8_feed_69 : decode cX8_feed 69 = .ok (.invokevirtual 150, 3) := by decide +kernel
theorem dX8_feed_72 : decode cX8_feed 72 = .ok (.pop, 1) := by decide +kernel
theorem dX8_feed_73 : decode cX8_feed 73 = .ok (.iinc 4 1, 3) := by decide +kernel
theorem dX8_feed_76 : decode cX8_feed 76 = .ok (.goto (-32), 3) := by decide +kernel
theorem dX8_feed_79 : decode cX8_feed 79 = .ok (.aload_n 0, 1) := by decide +kernel
theorem dX8_feed_80 : decode cX8_feed 80 = .ok (.getfield 12, 3) := by decide +kernel
theorem dX8_feed_83 : decode cX8_feed 83 = .ok (.getfield 139, 3) := by decide +kernel
theorem dX8_feed_86 : decode cX8_feed 86 = .ok (.getfield 143, 3) := by decide +kernel
theorem dX8_feed_89 : decode cX8_feed 89 = .ok (.ireturn, 1) := by decide +kernel
theorem dX8_text_0 : decode cX8_text 0 = .ok (.iload_n 1, 1) := by decide +kernel
theorem dX8_text_1 : decode cX8_text 1 = .ok (.invokestatic 153, 3) := by decide +kernel
theorem dX8_text_4 : decode cX8_text 4 = .ok (.ifCond .eq 10, 3) := by decide +kernel
theorem dX8_text_7 : decode cX8_text 7 = .ok (.aload_n 0, 1) := by decide +kernel
theorem dX8_text_8 : decode cX8_text 8 = .ok (.ldc 58, 2) := by decide +kernel
theorem dX8_text_10 : decode cX8_text 10 = .ok (.invokevirtual 59, 3) := by decide +kernel
theorem dX8_text_13 : decode cX8_text 13 = .ok (.ireturn, 1) := by decide +kernel
theorem dX8_text_14 : decode cX8_text 14 = .ok (.aload_n 0, 1) := by decide +kernel
theorem dX8_text_15 : decode cX8_text 15 = .ok (.getfield 25, 3) := by decide +kernel
theorem dX8_text_18 : decode cX8_text 18 = .ok (.aload_n 0, 1) := by decide +kernel
theorem dX8_text_19 : decode cX8_text 19 = .ok (.getfield 12, 3) := by decide +kernel
theorem dX8_text_22 : decode cX8_text 22 = .ok (.getfield 139, 3) := by decide +kernel
theorem dX8_text_25 : decode cX8_text 25 = .ok (.iload_n 1, 1) := by decide +kernel
theorem dX8_text_26 : decode cX8_text 26 = .ok (.invokevirtual 156, 3) := by decide +kernel
theorem dX8_text_29 : decode cX8_text 29 = .ok (.istore_n 2, 1) := by decide +kernel
theorem dX8_text_30 : decode cX8_text 30 = .ok (.aload_n 0, 1) := by decide +kernel
theorem dX8_text_31 : decode cX8_text 31 = .ok (.getfield 12, 3) := by decide +kernel
theorem dX8_text_34 : decode cX8_text 34 = .ok (.getfield 139, 3) := by decide +kernel
theorem dX8_text_37 : decode cX8_text 37 = .ok (.invokevirtual 160, 3) := by decide +kernel
theorem dX8_text_40 : decode cX8_text 40 = .ok (.iload_n 2, 1) := by decide +kernel
theorem dX8_text_41 : decode cX8_text 41 = .ok (.ifCond .lt 8, 3) := by decide +kernel
theorem dX8_text_44 : decode cX8_text 44 = .ok (.bipush (-10), 2) := by decide +kernel
theorem dX8_text_46 : decode cX8_text 46 = .ok (.iload_n 2, 1) := by decide +kernel
theorem dX8_text_47 : decode cX8_text 47 = .ok (.isub, 1) := by decide +kernel
theorem dX8_text_48 : decode cX8_text 48 = .ok (.ireturn, 1) := by decide +kernel
theorem dX8_text_49 : decode cX8_text 49 = .ok (.aload_n 0, 1) := by decide +kernel
theorem dX8_text_50 : decode cX8_text 50 = .ok (.getfield 12, 3) := by decide +kernel
theorem dX8_text_53 : decode cX8_text 53 = .ok (.iload_n 1, 1) := by decide +kernel
theorem dX8_text_54 : decode cX8_text 54 = .ok (.invokevirtual 163, 3) := by decide +kernel
theorem dX8_text_57 : decode cX8_text 57 = .ok (.aload_n 0, 1) := by decide +kernel
theorem dX8_text_58 : decode cX8_text 58 = .ok (.getfield 25, 3) := by decide +kernel
theorem dX8_text_61 : decode cX8_text 61 = .ok (.getfield 167, 3) := by decide +kernel
theorem dX8_text_64 : decode cX8_text 64 = .ok (.invokevirtual 170, 3) := by decide +kernel
theorem dX8_text_67 : decode cX8_text 67 = .ok (.iconst 1, 1) := by decide +kernel
theorem dX8_text_68 : decode cX8_text 68 = .ok (.ireturn, 1) := by decide +kernel
theorem dX8_law_0 : decode cX8_law 0 = .ok (.iload_n 1, 1) := by decide +kernel
theorem dX8_law_1 : decode cX8_law 1 = .ok (.invokestatic 153, 3) := by decide +kernel
theorem dX8_law_4 : decode cX8_law 4 = .ok (.ifCond .eq 10, 3) := by decide +kernel
theorem dX8_law_7 : decode cX8_law 7 = .ok (.aload_n 0, 1) := by decide +kernel
theorem dX8_law_8 : decode cX8_law 8 = .ok (.ldc 58, 2) := by decide +kernel
theorem dX8_law_10 : decode cX8_law 10 = .ok (.invokevirtual 59, 3) := by decide +kernel
theorem dX8_law_13 : decode cX8_law 13 = .ok (.ireturn, 1) := by decide +kernel
theorem dX8_law_14 : decode cX8_law 14 = .ok (.aload_n 0, 1) := by decide +kernel
theorem dX8_law_15 : decode cX8_law 15 = .ok (.getfield 12, 3) := by decide +kernel
theorem dX8_law_18 : decode cX8_law 18 = .ok (.iload_n 1, 1) := by decide +kernel
theorem dX8_law_19 : decode cX8_law 19 = .ok (.invokevirtual 163, 3) := by decide +kernel
theorem dX8_law_22 : decode cX8_law 22 = .ok (.iload_n 2, 1) := by decide +kernel
theorem dX8_law_23 : decode cX8_law 23 = .ok (.iload_n 3, 1) := by decide +kernel
theorem dX8_law_24 : decode cX8_law 24 = .ok (.iload 4, 2) := by decide +kernel
theorem dX8_law_26 : decode cX8_law 26 = .ok (.invokevirtual 176, 3) := by decide +kernel
theorem dX8_law_29 : decode cX8_law 29 = .ok (.ireturn, 1) := by decide +kernel
theorem dX8_nights_0 : decode cX8_nights 0 = .ok (.iload_n 1, 1) := by decide +kernel
theorem dX8_nights_1 : decode cX8_nights 1 = .ok (.iconst 1, 1) := by decide +kernel
theorem dX8_nights_2 : decode cX8_nights 2 = .ok (.bipush 100, 2) := by decide +kernel
theorem dX8_nights_4 : decode cX8_nights 4 = .ok (.invokestatic 54, 3) := by decide +kernel
theorem dX8_nights_7 : decode cX8_nights 7 = .ok (.ifCond .eq 10, 3) := by decide +kernel
theorem dX8_nights_10 : decode cX8_nights 10 = .ok (.aload_n 0, 1) := by decide +kernel
theorem dX8_nights_11 : decode cX8_nights 11 = .ok (.ldc 58, 2) := by decide +kernel
theorem dX8_nights_13 : decode cX8_nights 13 = .ok (.invokevirtual 59, 3) := by decide +kernel
theorem dX8_nights_16 : decode cX8_nights 16 = .ok (.ireturn, 1) := by decide +kernel
theorem dX8_nights_17 : decode cX8_nights 17 = .ok (.aload_n 0, 1) := by decide +kernel
theorem dX8_nights_18 : decode cX8_nights 18 = .ok (.getfield 12, 3) := by decide +kernel
theorem dX8_nights_21 : decode cX8_nights 21 = .ok (.getfield 63, 3) := by decide +kernel
theorem dX8_nights_24 : decode cX8_nights 24 = .ok (.iload_n 1, 1) := by decide +kernel
theorem dX8_nights_25 : decode cX8_nights 25 = .ok (.iadd, 1) := by decide +kernel
theorem dX8_nights_26 : decode cX8_nights 26 = .ok (.sipush 9999, 3) := by decide +kernel
theorem dX8_nights_29 : decode cX8_nights 29 = .ok (.if_icmp .le 10, 3) := by decide +kernel
theorem dX8_nights_32 : decode cX8_nights 32 = .ok (.aload_n 0, 1) := by decide +kernel
theorem dX8_nights_33 : decode cX8_nights 33 = .ok (.ldc 134, 2) := by decide +kernel
theorem dX8_nights_35 : decode cX8_nights 35 = .ok (.invokevirtual 59, 3) := by decide +kernel
theorem dX8_nights_38 : decode cX8_nights 38 = .ok (.ireturn, 1) := by decide +kernel
theorem dX8_nights_39 : decode cX8_nights 39 = .ok (.aload_n 0, 1) := by decide +kernel
theorem dX8_nights_40 : decode cX8_nights 40 = .ok (.getfield 12, 3) := by decide +kernel
theorem dX8_nights_43 : decode cX8_nights 43 = .ok (.iload_n 1, 1) := by decide +kernel
theorem dX8_nights_44 : decode cX8_nights 44 = .ok (.invokevirtual 180, 3) := by decide +kernel
theorem dX8_nights_47 : decode cX8_nights 47 = .ok (.aload_n 0, 1) := by decide +kernel
theorem dX8_nights_48 : decode cX8_nights 48 = .ok (.getfield 12, 3) := by decide +kernel
theorem dX8_nights_51 : decode cX8_nights 51 = .ok (.invokevirtual 135, 3) := by decide +kernel
theorem dX8_nights_54 : decode cX8_nights 54 = .ok (.ireturn, 1) := by decide +kernel
theorem dX8_loose_0 : decode cX8_loose 0 = .ok (.iload_n 1, 1) := by decide +kernel
theorem dX8_loose_1 : decode cX8_loose 1 = .ok (.iconst 1, 1) := by decide +kernel
theorem dX8_loose_2 : decode cX8_loose 2 = .ok (.bipush 40, 2) := by decide +kernel
theorem dX8_loose_4 : decode cX8_loose 4 = .ok (.invokestatic 54, 3) := by decide +kernel
theorem dX8_loose_7 : decode cX8_loose 7 = .ok (.ifCond .eq 10, 3) := by decide +kernel
theorem dX8_loose_10 : decode cX8_loose 10 = .ok (.aload_n 0, 1) := by decide +kernel
theorem dX8_loose_11 : decode cX8_loose 11 = .ok (.ldc 58, 2) := by decide +kernel
theorem dX8_loose_13 : decode cX8_loose 13 = .ok (.invokevirtual 59, 3) := by decide +kernel
theorem dX8_loose_16 : decode cX8_loose 16 = .ok (.ireturn, 1) := by decide +kernel
theorem dX8_loose_17 : decode cX8_loose 17 = .ok (.aload_n 0, 1) := by decide +kernel
theorem dX8_loose_18 : decode cX8_loose 18 = .ok (.getfield 12, 3) := by decide +kernel
theorem dX8_loose_21 : decode cX8_loose 21 = .ok (.getfield 63, 3) := by decide +kernel
theorem dX8_loose_24 : decode cX8_loose 24 = .ok (.iload_n 1, 1) := by decide +kernel
theorem dX8_loose_25 : decode cX8_loose 25 = .ok (.iadd, 1) := by decide +kernel
theorem dX8_loose_26 : decode cX8_loose 26 = .ok (.sipush 9999, 3) := by decide +kernel
theorem dX8_loose_29 : decode cX8_loose 29 = .ok (.if_icmp .le 10, 3) := by decide +kernel
theorem dX8_loose_32 : decode cX8_loose 32 = .ok (.aload_n 0, 1) := by decide +kernel
theorem dX8_loose_33 : decode cX8_loose 33 = .ok (.ldc 134, 2) := by decide +kernel
theorem dX8_loose_35 : decode cX8_loose 35 = .ok (.invokevirtual 59, 3) := by decide +kernel
theorem dX8_loose_38 : decode cX8_loose 38 = .ok (.ireturn, 1) := by decide +kernel
theorem dX8_loose_39 : decode cX8_loose 39 = .ok (.iconst 0, 1) := by decide +kernel
theorem dX8_loose_40 : decode cX8_loose 40 = .ok (.istore_n 2, 1) := by decide +kernel
theorem dX8_loose_41 : decode cX8_loose 41 = .ok (.iload_n 2, 1) := by decide +kernel
theorem dX8_loose_42 : decode cX8_loose 42 = .ok (.iload_n 1, 1) := by decide +kernel
theorem dX8_loose_43 : decode cX8_loose 43 = .ok (.if_icmp .ge 24, 3) := by decide +kernel
theorem dX8_loose_46 : decode cX8_loose 46 = .ok (.aload_n 0, 1) := by decide +kernel
theorem dX8_loose_47 : decode cX8_loose 47 = .ok (.getfield 12, 3) := by decide +kernel
theorem dX8_loose_50 : decode cX8_loose 50 = .ok (.invokevirtual 184, 3) := by decide +kernel
theorem dX8_loose_53 : decode cX8_loose 53 = .ok (.aload_n 0, 1) := by decide +kernel
theorem dX8_loose_54 : decode cX8_loose 54 = .ok (.getfield 12, 3) := by decide +kernel
theorem dX8_loose_57 : decode cX8_loose 57 = .ok (.iconst 1, 1) := by decide +kernel
theorem dX8_loose_58 : decode cX8_loose 58 = .ok (.invokevirtual 180, 3) := by decide +kernel
theorem dX8_loose_61 : decode cX8_loose 61 = .ok (.iinc 2 1, 3) := by decide +kernel
theorem dX8_loose_64 : decode cX8_loose 64 = .ok (.goto (-23), 3) := by decide +kernel
theorem dX8_loose_67 : decode cX8_loose 67 = .ok (.aload_n 0, 1) := by decide +kernel
theorem dX8_loose_68 : decode cX8_loose 68 = .ok (.getfield 12, 3) := by decide +kernel
theorem dX8_loose_71 : decode cX8_loose 71 = .ok (.invokevirtual 135, 3) := by decide +kernel
theorem dX8_loose_74 : decode cX8_loose 74 = .ok (.ireturn, 1) := by decide +kernel
theorem dX8_then_0 : decode cX8_then 0 = .ok (.iload_n 1, 1) := by decide +kernel
theorem dX8_then_1 : decode cX8_then 1 = .ok (.iconst 0, 1) := by decide +kernel
theorem dX8_then_2 : decode cX8_then 2 = .ok (.bipush 100, 2) := by decide +kernel
theorem dX8_then_4 : decode cX8_then 4 = .ok (.invokestatic 54, 3) := by decide +kernel
theorem dX8_then_7 : decode cX8_then 7 = .ok (.ifCond .ne 23, 3) := by decide +kernel
theorem dX8_then_10 : decode cX8_then 10 = .ok (.iload_n 3, 1) := by decide +kernel
theorem dX8_then_11 : decode cX8_then 11 = .ok (.iconst 0, 1) := by decide +kernel
theorem dX8_then_12 : decode cX8_then 12 = .ok (.iconst 1, 1) := by decide +kernel
theorem dX8_then_13 : decode cX8_then 13 = .ok (.invokestatic 54, 3) := by decide +kernel
theorem dX8_then_16 : decode cX8_then 16 = .ok (.ifCond .ne 14, 3) := by decide +kernel
theorem dX8_then_19 : decode cX8_then 19 = .ok (.aload_n 0, 1) := by decide +kernel
theorem dX8_then_20 : decode cX8_then 20 = .ok (.getfield 12, 3) := by decide +kernel
theorem dX8_then_23 : decode cX8_then 23 = .ok (.iload_n 2, 1) := by decide +kernel
theorem dX8_then_24 : decode cX8_then 24 = .ok (.invokevirtual 91, 3) := by decide +kernel
theorem dX8_then_27 : decode cX8_then 27 = .ok (.ifnonnull 10, 3) := by decide +kernel
theorem dX8_then_30 : decode cX8_then 30 = .ok (.aload_n 0, 1) := by decide +kernel
theorem dX8_then_31 : decode cX8_then 31 = .ok (.ldc 58, 2) := by decide +kernel
theorem dX8_then_33 : decode cX8_then 33 = .ok (.invokevirtual 59, 3) := by decide +kernel
theorem dX8_then_36 : decode cX8_then 36 = .ok (.ireturn, 1) := by decide +kernel
theorem dX8_then_37 : decode cX8_then 37 = .ok (.aload_n 0, 1) := by decide +kernel
theorem dX8_then_38 : decode cX8_then 38 = .ok (.getfield 19, 3) := by decide +kernel
theorem dX8_then_41 : decode cX8_then 41 = .ok (.aload_n 0, 1) := by decide +kernel
theorem dX8_then_42 : decode cX8_then 42 = .ok (.getfield 12, 3) := by decide +kernel
theorem dX8_then_45 : decode cX8_then 45 = .ok (.invokevirtual 187, 3) := by decide +kernel
theorem dX8_then_48 : decode cX8_then 48 = .ok (.aload_n 0, 1) := by decide +kernel
theorem dX8_then_49 : decode cX8_then 49 = .ok (.getfield 19, 3) := by decide +kernel
theorem dX8_then_52 : decode cX8_then 52 = .ok (.iload_n 1, 1) := by decide +kernel
theorem dX8_then_53 : decode cX8_then 53 = .ok (.invokevirtual 180, 3) := by decide +kernel
theorem dX8_then_56 : decode cX8_then 56 = .ok (.aload_n 0, 1) := by decide +kernel
theorem dX8_then_57 : decode cX8_then 57 = .ok (.getfield 19, 3) := by decide +kernel
theorem dX8_then_60 : decode cX8_then 60 = .ok (.iload_n 2, 1) := by decide +kernel
theorem dX8_then_61 : decode cX8_then 61 = .ok (.invokevirtual 91, 3) := by decide +kernel
theorem dX8_then_64 : decode cX8_then 64 = .ok (.astore 4, 2) := by decide +kernel
theorem dX8_then_66 : decode cX8_then 66 = .ok (.aload 4, 2) := by decide +kernel
theorem dX8_then_68 : decode cX8_then 68 = .ok (.ifnonnull 10, 3) := by decide +kernel
theorem dX8_then_71 : decode cX8_then 71 = .ok (.aload_n 0, 1) := by decide +kernel
theorem dX8_then_72 : decode cX8_then 72 = .ok (.ldc 58, 2) := by decide +kernel
theorem dX8_then_74 : decode cX8_then 74 = .ok (.invokevirtual 59, 3) := by decide +kernel
theorem dX8_then_77 : decode cX8_then 77 = .ok (.ireturn, 1) := by decide +kernel
theorem dX8_then_78 : decode cX8_then 78 = .ok (.iload_n 3, 1) := by decide +kernel
theorem dX8_then_79 : decode cX8_then 79 = .ok (.ifCond .ne 14, 3) := by decide +kernel
theorem dX8_then_82 : decode cX8_then 82 = .ok (.aload 4, 2) := by decide +kernel
theorem dX8_then_84 : decode cX8_then 84 = .ok (.getfield 106, 3) := by decide +kernel
theorem dX8_then_87 : decode cX8_then 87 = .ok (.ldc 109, 2) := by decide +kernel
theorem dX8_then_89 : decode cX8_then 89 = .ok (.iadd, 1) := by decide +kernel
theorem dX8_then_90 : decode cX8_then 90 = .ok (.goto 8, 3) := by decide +kernel
theorem dX8_then_93 : decode cX8_then 93 = .ok (.aload 4, 2) := by decide +kernel
theorem dX8_then_95 : decode cX8_then 95 = .ok (.getfield 103, 3) := by decide +kernel
theorem dX8_then_98 : decode cX8_then 98 = .ok (.ireturn, 1) := by decide +kernel
theorem dX8_often_0 : decode cX8_often 0 = .ok (.aload_n 0, 1) := by decide +kernel
theorem dX8_often_1 : decode cX8_often 1 = .ok (.getfield 12, 3) := by decide +kernel
theorem dX8_often_4 : decode cX8_often 4 = .ok (.iload_n 1, 1) := by decide +kernel
theorem dX8_often_5 : decode cX8_often 5 = .ok (.invokevirtual 91, 3) := by decide +kernel
theorem dX8_often_8 : decode cX8_often 8 = .ok (.astore_n 3, 1) := by decide +kernel
theorem dX8_often_9 : decode cX8_often 9 = .ok (.aload_n 3, 1) := by decide +kernel
theorem dX8_often_10 : decode cX8_often 10 = .ok (.ifnull 13, 3) := by decide +kernel
theorem dX8_often_13 : decode cX8_often 13 = .ok (.iload_n 2, 1) := by decide +kernel
theorem dX8_often_14 : decode cX8_often 14 = .ok (.iconst 1, 1) := by decide +kernel
theorem dX8_often_15 : decode cX8_often 15 = .ok (.bipush 100, 2) := by decide +kernel
theorem dX8_often_17 : decode cX8_often 17 = .ok (.invokestatic 54, 3) := by decide +kernel
theorem dX8_often_20 : decode cX8_often 20 = .ok (.ifCond .eq 10, 3) := by decide +kernel
theorem dX8_often_23 : decode cX8_often 23 = .ok (.aload_n 0, 1) := by decide +kernel
theorem dX8_often_24 : decode cX8_often 24 = .ok (.ldc 58, 2) := by decide +kernel
theorem dX8_often_26 : decode cX8_often 26 = .ok (.invokevirtual 59, 3) := by decide +kernel
theorem dX8_often_29 : decode cX8_often 29 = .ok (.ireturn, 1) := by decide +kernel
theorem dX8_often_30 : decode cX8_often 30 = .ok (.iconst 0, 1) := by decide +kernel
theorem dX8_often_31 : decode cX8_often 31 = .ok (.istore 4, 2) := by decide +kernel
theorem dX8_often_33 : decode cX8_often 33 = .ok (.iconst 0, 1) := by decide +kernel
theorem dX8_often_34 : decode cX8_often 34 = .ok (.istore 5, 2) := by decide +kernel
theorem dX8_often_36 : decode cX8_often 36 = .ok (.iload 5, 2) := by decide +kernel
theorem dX8_often_38 : decode cX8_often 38 = .ok (.iload_n 2, 1) := by decide +kernel
theorem dX8_often_39 : decode cX8_often 39 = .ok (.if_icmp .ge 50, 3) := by decide +kernel
theorem dX8_often_42 : decode cX8_often 42 = .ok (.aload_n 0, 1) := by decide +kernel
theorem dX8_often_43 : decode cX8_often 43 = .ok (.getfield 12, 3) := by decide +kernel
theorem dX8_often_46 : decode cX8_often 46 = .ok (.getfield 63, 3) := by decide +kernel
theorem dX8_often_49 : decode cX8_often 49 = .ok (.iload 5, 2) := by decide +kernel
theorem dX8_often_51 : decode cX8_often 51 = .ok (.iadd, 1) := by decide +kernel
theorem dX8_often_52 : decode cX8_often 52 = .ok (.istore 6, 2) := by decide +kernel
theorem dX8_often_54 : decode cX8_often 54 = .ok (.aload_n 3, 1) := by decide +kernel
theorem dX8_often_55 : decode cX8_often 55 = .ok (.iload 6, 2) := by decide +kernel
theorem dX8_often_57 : decode cX8_often 57 = .ok (.invokevirtual 114, 3) := by decide +kernel
theorem dX8_often_60 : decode cX8_often 60 = .ok (.ifCond .eq 23, 3) := by decide +kernel
theorem dX8_often_63 : decode cX8_often 63 = .ok (.aload_n 3, 1) := by decide +kernel
theorem dX8_often_64 : decode cX8_often 64 = .ok (.getfield 103, 3) := by decide +kernel
theorem dX8_often_67 : decode cX8_often 67 = .ok (.aload_n 0, 1) := by decide +kernel
theorem dX8_often_68 : decode cX8_often 68 = .ok (.getfield 12, 3) := by decide +kernel
theorem dX8_often_71 : decode cX8_often 71 = .ok (.iload 6, 2) := by decide +kernel
theorem dX8_often_73 : decode cX8_often 73 = .ok (.invokevirtual 70, 3) := by decide +kernel
theorem dX8_often_76 : decode cX8_often 76 = .ok (.iand, 1) := by decide +kernel
theorem dX8_often_77 : decode cX8_often 77 = .ok (.ifCond .eq 6, 3) := by decide +kernel
theorem dX8_often_80 : decode cX8_often 80 = .ok (.iinc 4 1, 3) := by decide +kernel
theorem dX8_often_83 : decode cX8_often 83 = .ok (.iinc 5 1, 3) := by decide +kernel
theorem dX8_often_86 : decode cX8_often 86 = .ok (.goto (-50), 3) := by decide +kernel
theorem dX8_often_89 : decode cX8_often 89 = .ok (.iload 4, 2) := by decide +kernel
theorem dX8_often_91 : decode cX8_often 91 = .ok (.ireturn, 1) := by decide +kernel
theorem dX8_whole_0 : decode cX8_whole 0 = .ok (.aload_n 0, 1) := by decide +kernel
theorem dX8_whole_1 : decode cX8_whole 1 = .ok (.getfield 12, 3) := by decide +kernel
theorem dX8_whole_4 : decode cX8_whole 4 = .ok (.iload_n 1, 1) := by decide +kernel
theorem dX8_whole_5 : decode cX8_whole 5 = .ok (.invokevirtual 91, 3) := by decide +kernel
theorem dX8_whole_8 : decode cX8_whole 8 = .ok (.astore_n 2, 1) := by decide +kernel
theorem dX8_whole_9 : decode cX8_whole 9 = .ok (.aload_n 2, 1) := by decide +kernel
theorem dX8_whole_10 : decode cX8_whole 10 = .ok (.ifnonnull 10, 3) := by decide +kernel
theorem dX8_whole_13 : decode cX8_whole 13 = .ok (.aload_n 0, 1) := by decide +kernel
theorem dX8_whole_14 : decode cX8_whole 14 = .ok (.ldc 58, 2) := by decide +kernel
theorem dX8_whole_16 : decode cX8_whole 16 = .ok (.invokevirtual 59, 3) := by decide +kernel
theorem dX8_whole_19 : decode cX8_whole 19 = .ok (.ireturn, 1) := by decide +kernel
theorem dX8_whole_20 : decode cX8_whole 20 = .ok (.aload_n 2, 1) := by decide +kernel
theorem dX8_whole_21 : decode cX8_whole 21 = .ok (.getfield 103, 3) := by decide +kernel
theorem dX8_whole_24 : decode cX8_whole 24 = .ok (.ifCond .ne 10, 3) := by decide +kernel
theorem dX8_whole_27 : decode cX8_whole 27 = .ok (.aload_n 0, 1) := by decide +kernel
theorem dX8_whole_28 : decode cX8_whole 28 = .ok (.ldc 134, 2) := by decide +kernel
theorem dX8_whole_30 : decode cX8_whole 30 = .ok (.invokevirtual 59, 3) := by decide +kernel
theorem dX8_whole_33 : decode cX8_whole 33 = .ok (.ireturn, 1) := by decide +kernel
theorem dX8_whole_34 : decode cX8_whole 34 = .ok (.iconst 0, 1) := by decide +kernel
theorem dX8_whole_35 : decode cX8_whole 35 = .ok (.istore_n 3, 1) := by decide +kernel
theorem dX8_whole_36 : decode cX8_whole 36 = .ok (.iload_n 3, 1) := by decide +kernel
theorem dX8_whole_37 : decode cX8_whole 37 = .ok (.bipush 100, 2) := by decide +kernel
theorem dX8_whole_39 : decode cX8_whole 39 = .ok (.if_icmp .gt 37, 3) := by decide +kernel
theorem dX8_whole_42 : decode cX8_whole 42 = .ok (.aload_n 2, 1) := by decide +kernel
theorem dX8_whole_43 : decode cX8_whole 43 = .ok (.getfield 103, 3) := by decide +kernel
theorem dX8_whole_46 : decode cX8_whole 46 = .ok (.aload_n 0, 1) := by decide +kernel
theorem dX8_whole_47 : decode cX8_whole 47 = .ok (.getfield 12, 3) := by decide +kernel
theorem dX8_whole_50 : decode cX8_whole 50 = .ok (.aload_n 0, 1) := by decide +kernel
theorem dX8_whole_51 : decode cX8_whole 51 = .ok (.getfield 12, 3) := by decide +kernel
theorem dX8_whole_54 : decode cX8_whole 54 = .ok (.getfield 63, 3) := by decide +kernel
theorem dX8_whole_57 : decode cX8_whole 57 = .ok (.iload_n 3, 1) := by decide +kernel
theorem dX8_whole_58 : decode cX8_whole 58 = .ok (.iadd, 1) := by decide +kernel
theorem dX8_whole_59 : decode cX8_whole 59 = .ok (.invokevirtual 70, 3) := by decide +kernel
theorem dX8_whole_62 : decode cX8_whole 62 = .ok (.iconst (-1), 1) := by decide +kernel
theorem dX8_whole_63 : decode cX8_whole 63 = .ok (.ixor, 1) := by decide +kernel
theorem dX8_whole_64 : decode cX8_whole 64 = .ok (.iand, 1) := by decide +kernel
theorem dX8_whole_65 : decode cX8_whole 65 = .ok (.ifCond .ne 5, 3) := by decide +kernel
theorem dX8_whole_68 : decode cX8_whole 68 = .ok (.iload_n 3, 1) := by decide +kernel
theorem dX8_whole_69 : decode cX8_whole 69 = .ok (.ireturn, 1) := by decide +kernel
theorem dX8_whole_70 : decode cX8_whole 70 = .ok (.iinc 3 1, 3) := by decide +kernel
theorem dX8_whole_73 : decode cX8_whole 73 = .ok (.goto (-37), 3) := by decide +kernel
theorem dX8_whole_76 : decode cX8_whole 76 = .ok (.aload_n 0, 1) := by decide +kernel
theorem dX8_whole_77 : decode cX8_whole 77 = .ok (.ldc 190, 2) := by decide +kernel
theorem dX8_whole_79 : decode cX8_whole 79 = .ok (.invokevirtual 59, 3) := by decide +kernel
theorem dX8_whole_82 : decode cX8_whole 82 = .ok (.ireturn, 1) := by decide +kernel
theorem dX8_stays_0 : decode cX8_stays 0 = .ok (.aload_n 0, 1) := by decide +kernel
theorem dX8_stays_1 : decode cX8_stays 1 = .ok (.getfield 12, 3) := by decide +kernel
theorem dX8_stays_4 : decode cX8_stays 4 = .ok (.iload_n 1, 1) := by decide +kernel
theorem dX8_stays_5 : decode cX8_stays 5 = .ok (.invokevirtual 91, 3) := by decide +kernel
theorem dX8_stays_8 : decode cX8_stays 8 = .ok (.astore_n 2, 1) := by decide +kernel
theorem dX8_stays_9 : decode cX8_stays 9 = .ok (.aload_n 2, 1) := by decide +kernel
theorem dX8_stays_10 : decode cX8_stays 10 = .ok (.ifnonnull 10, 3) := by decide +kernel
theorem dX8_stays_13 : decode cX8_stays 13 = .ok (.aload_n 0, 1) := by decide +kernel
theorem dX8_stays_14 : decode cX8_stays 14 = .ok (.ldc 58, 2) := by decide +kernel
theorem dX8_stays_16 : decode cX8_stays 16 = .ok (.invokevirtual 59, 3) := by decide +kernel
theorem dX8_stays_19 : decode cX8_stays 19 = .ok (.ireturn, 1) := by decide +kernel
theorem dX8_stays_20 : decode cX8_stays 20 = .ok (.aload_n 2, 1) := by decide +kernel
theorem dX8_stays_21 : decode cX8_stays 21 = .ok (.getfield 110, 3) := by decide +kernel
theorem dX8_stays_24 : decode cX8_stays 24 = .ok (.ifCond .eq 10, 3) := by decide +kernel
theorem dX8_stays_27 : decode cX8_stays 27 = .ok (.aload_n 0, 1) := by decide +kernel
theorem dX8_stays_28 : decode cX8_stays 28 = .ok (.ldc 134, 2) := by decide +kernel
theorem dX8_stays_30 : decode cX8_stays 30 = .ok (.invokevirtual 59, 3) := by decide +kernel
theorem dX8_stays_33 : decode cX8_stays 33 = .ok (.ireturn, 1) := by decide +kernel
theorem dX8_stays_34 : decode cX8_stays 34 = .ok (.aload_n 0, 1) := by decide +kernel
theorem dX8_stays_35 : decode cX8_stays 35 = .ok (.getfield 19, 3) := by decide +kernel
theorem dX8_stays_38 : decode cX8_stays 38 = .ok (.aload_n 0, 1) := by decide +kernel
theorem dX8_stays_39 : decode cX8_stays 39 = .ok (.getfield 12, 3) := by decide +kernel
theorem dX8_stays_42 : decode cX8_stays 42 = .ok (.invokevirtual 187, 3) := by decide +kernel
theorem dX8_stays_45 : decode cX8_stays 45 = .ok (.iconst 1, 1) := by decide +kernel
theorem dX8_stays_46 : decode cX8_stays 46 = .ok (.istore_n 3, 1) := by decide +kernel
theorem dX8_stays_47 : decode cX8_stays 47 = .ok (.iload_n 3, 1) := by decide +kernel
theorem dX8_stays_48 : decode cX8_stays 48 = .ok (.bipush 100, 2) := by decide +kernel
theorem dX8_stays_50 : decode cX8_stays 50 = .ok (.if_icmp .gt 42, 3) := by decide +kernel
theorem dX8_stays_53 : decode cX8_stays 53 = .ok (.aload_n 0, 1) := by decide +kernel
theorem dX8_stays_54 : decode cX8_stays 54 = .ok (.getfield 19, 3) := by decide +kernel
theorem dX8_stays_57 : decode cX8_stays 57 = .ok (.iconst 1, 1) := by decide +kernel
theorem dX8_stays_58 : decode cX8_stays 58 = .ok (.invokevirtual 180, 3) := by decide +kernel
theorem dX8_stays_61 : decode cX8_stays 61 = .ok (.aload_n 0, 1) := by decide +kernel
theorem dX8_stays_62 : decode cX8_stays 62 = .ok (.getfield 19, 3) := by decide +kernel
theorem dX8_stays_65 : decode cX8_stays 65 = .ok (.iload_n 1, 1) := by decide +kernel
theorem dX8_stays_66 : decode cX8_stays 66 = .ok (.invokevirtual 91, 3) := by decide +kernel
theorem dX8_stays_69 : decode cX8_stays 69 = .ok (.astore 4, 2) := by decide +kernel
theorem dX8_stays_71 : decode cX8_stays 71 = .ok (.aload 4, 2) := by decide +kernel
theorem dX8_stays_73 : decode cX8_stays 73 = .ok (.ifnull 13, 3) := by decide +kernel
theorem dX8_stays_76 : decode cX8_stays 76 = .ok (.aload 4, 2) := by decide +kernel
theorem dX8_stays_78 : decode cX8_stays 78 = .ok (.getfield 110, 3) := by decide +kernel
theorem dX8_stays_81 : decode cX8_stays 81 = .ok (.ifCond .eq 5, 3) := by decide +kernel
theorem dX8_stays_84 : decode cX8_stays 84 = .ok (.iload_n 3, 1) := by decide +kernel
theorem dX8_stays_85 : decode cX8_stays 85 = .ok (.ireturn, 1) := by decide +kernel
theorem dX8_stays_86 : decode cX8_stays 86 = .ok (.iinc 3 1, 3) := by decide +kernel
theorem dX8_stays_89 : decode cX8_stays 89 = .ok (.goto (-42), 3) := by decide +kernel
theorem dX8_stays_92 : decode cX8_stays 92 = .ok (.aload_n 0, 1) := by decide +kernel
theorem dX8_stays_93 : decode cX8_stays 93 = .ok (.ldc 190, 2) := by decide +kernel
theorem dX8_stays_95 : decode cX8_stays 95 = .ok (.invokevirtual 59, 3) := by decide +kernel
theorem dX8_stays_98 : decode cX8_stays 98 = .ok (.ireturn, 1) := by decide +kernel
theorem dX8_clash_0 : decode cX8_clash 0 = .ok (.iconst 0, 1) := by decide +kernel
theorem dX8_clash_1 : decode cX8_clash 1 = .ok (.istore_n 1, 1) := by decide +kernel
theorem dX8_clash_2 : decode cX8_clash 2 = .ok (.iconst 0, 1) := by decide +kernel
theorem dX8_clash_3 : decode cX8_clash 3 = .ok (.istore_n 2, 1) := by decide +kernel
theorem dX8_clash_4 : decode cX8_clash 4 = .ok (.iload_n 2, 1) := by decide +kernel
theorem dX8_clash_5 : decode cX8_clash 5 = .ok (.aload_n 0, 1) := by decide +kernel
theorem dX8_clash_6 : decode cX8_clash 6 = .ok (.getfield 12, 3) := by decide +kernel
theorem dX8_clash_9 : decode cX8_clash 9 = .ok (.getfield 191, 3) := by decide +kernel
theorem dX8_clash_12 : decode cX8_clash 12 = .ok (.if_icmp .ge 23, 3) := by decide +kernel
theorem dX8_clash_15 : decode cX8_clash 15 = .ok (.iload_n 1, 1) := by decide +kernel
theorem dX8_clash_16 : decode cX8_clash 16 = .ok (.aload_n 0, 1) := by decide +kernel
theorem dX8_clash_17 : decode cX8_clash 17 = .ok (.getfield 12, 3) := by decide +kernel
theorem dX8_clash_20 : decode cX8_clash 20 = .ok (.iload_n 2, 1) := by decide +kernel
theorem dX8_clash_21 : decode cX8_clash 21 = .ok (.invokevirtual 194, 3) := by decide +kernel
theorem dX8_clash_24 : decode cX8_clash 24 = .ok (.invokestatic 197, 3) := by decide +kernel
theorem dX8_clash_27 : decode cX8_clash 27 = .ok (.iadd, 1) := by decide +kernel
theorem dX8_clash_28 : decode cX8_clash 28 = .ok (.istore_n 1, 1) := by decide +kernel
theorem dX8_clash_29 : decode cX8_clash 29 = .ok (.iinc 2 1, 3) := by decide +kernel
theorem dX8_clash_32 : decode cX8_clash 32 = .ok (.goto (-28), 3) := by decide +kernel
theorem dX8_clash_35 : decode cX8_clash 35 = .ok (.iload_n 1, 1) := by decide +kernel
theorem dX8_clash_36 : decode cX8_clash 36 = .ok (.iconst 2, 1) := by decide +kernel
theorem dX8_clash_37 : decode cX8_clash 37 = .ok (.idiv, 1) := by decide +kernel
theorem dX8_clash_38 : decode cX8_clash 38 = .ok (.ireturn, 1) := by decide +kernel
theorem dX8_least_0 : decode cX8_least 0 = .ok (.iload_n 1, 1) := by decide +kernel
theorem dX8_least_1 : decode cX8_least 1 = .ok (.iconst 0, 1) := by decide +kernel
theorem dX8_least_2 : decode cX8_least 2 = .ok (.iconst 1, 1) := by decide +kernel
theorem dX8_least_3 : decode cX8_least 3 = .ok (.invokestatic 54, 3) := by decide +kernel
theorem dX8_least_6 : decode cX8_least 6 = .ok (.ifCond .eq 10, 3) := by decide +kernel
theorem dX8_least_9 : decode cX8_least 9 = .ok (.aload_n 0, 1) := by decide +kernel
theorem dX8_least_10 : decode cX8_least 10 = .ok (.ldc 58, 2) := by decide +kernel
theorem dX8_least_12 : decode cX8_least 12 = .ok (.invokevirtual 59, 3) := by decide +kernel
theorem dX8_least_15 : decode cX8_least 15 = .ok (.ireturn, 1) := by decide +kernel
theorem dX8_least_16 : decode cX8_least 16 = .ok (.aload_n 0, 1) := by decide +kernel
theorem dX8_least_17 : decode cX8_least 17 = .ok (.getfield 12, 3) := by decide +kernel
theorem dX8_least_20 : decode cX8_least 20 = .ok (.invokevirtual 202, 3) := by decide +kernel
theorem dX8_least_23 : decode cX8_least 23 = .ok (.istore_n 2, 1) := by decide +kernel
theorem dX8_least_24 : decode cX8_least 24 = .ok (.iload_n 1, 1) := by decide +kernel
theorem dX8_least_25 : decode cX8_least 25 = .ok (.ifCond .ne 10, 3) := by decide +kernel
theorem dX8_least_28 : decode cX8_least 28 = .ok (.iload_n 2, 1) := by decide +kernel
theorem dX8_least_29 : decode cX8_least 29 = .ok (.invokestatic 197, 3) := by decide +kernel
theorem dX8_least_32 : decode cX8_least 32 = .ok (.goto 4, 3) := by decide +kernel
theorem dX8_least_35 : decode cX8_least 35 = .ok (.iload_n 2, 1) := by decide +kernel
theorem dX8_least_36 : decode cX8_least 36 = .ok (.ireturn, 1) := by decide +kernel
theorem dX8_beside_0 : decode cX8_beside 0 = .ok (.aload_n 0, 1) := by decide +kernel
theorem dX8_beside_1 : decode cX8_beside 1 = .ok (.getfield 12, 3) := by decide +kernel
theorem dX8_beside_4 : decode cX8_beside 4 = .ok (.iload_n 1, 1) := by decide +kernel
theorem dX8_beside_5 : decode cX8_beside 5 = .ok (.invokevirtual 91, 3) := by decide +kernel
theorem dX8_beside_8 : decode cX8_beside 8 = .ok (.astore_n 2, 1) := by decide +kernel
theorem dX8_beside_9 : decode cX8_beside 9 = .ok (.aload_n 2, 1) := by decide +kernel
theorem dX8_beside_10 : decode cX8_beside 10 = .ok (.ifnonnull 10, 3) := by decide +kernel
theorem dX8_beside_13 : decode cX8_beside 13 = .ok (.aload_n 0, 1) := by decide +kernel
theorem dX8_beside_14 : decode cX8_beside 14 = .ok (.ldc 58, 2) := by decide +kernel
theorem dX8_beside_16 : decode cX8_beside 16 = .ok (.invokevirtual 59, 3) := by decide +kernel
theorem dX8_beside_19 : decode cX8_beside 19 = .ok (.ireturn, 1) := by decide +kernel
theorem dX8_beside_20 : decode cX8_beside 20 = .ok (.aload_n 2, 1) := by decide +kernel
theorem dX8_beside_21 : decode cX8_beside 21 = .ok (.getfield 103, 3) := by decide +kernel
theorem dX8_beside_24 : decode cX8_beside 24 = .ok (.invokestatic 205, 3) := by decide +kernel
theorem dX8_beside_27 : decode cX8_beside 27 = .ok (.aload_n 0, 1) := by decide +kernel
theorem dX8_beside_28 : decode cX8_beside 28 = .ok (.getfield 12, 3) := by decide +kernel
theorem dX8_beside_31 : decode cX8_beside 31 = .ok (.iload_n 1, 1) := by decide +kernel
theorem dX8_beside_32 : decode cX8_beside 32 = .ok (.invokevirtual 208, 3) := by decide +kernel
theorem dX8_beside_35 : decode cX8_beside 35 = .ok (.iand, 1) := by decide +kernel
theorem dX8_beside_36 : decode cX8_beside 36 = .ok (.aload_n 2, 1) := by decide +kernel
theorem dX8_beside_37 : decode cX8_beside 37 = .ok (.getfield 103, 3) := by decide +kernel
theorem dX8_beside_40 : decode cX8_beside 40 = .ok (.iconst (-1), 1) := by decide +kernel
theorem dX8_beside_41 : decode cX8_beside 41 = .ok (.ixor, 1) := by decide +kernel
theorem dX8_beside_42 : decode cX8_beside 42 = .ok (.iand, 1) := by decide +kernel
theorem dX8_beside_43 : decode cX8_beside 43 = .ok (.ireturn, 1) := by decide +kernel
theorem dX8_rooms_0 : decode cX8_rooms 0 = .ok (.aload_n 0, 1) := by decide +kernel
theorem dX8_rooms_1 : decode cX8_rooms 1 = .ok (.iload_n 1, 1) := by decide +kernel
theorem dX8_rooms_2 : decode cX8_rooms 2 = .ok (.invokevirtual 211, 3) := by decide +kernel
theorem dX8_rooms_5 : decode cX8_rooms 5 = .ok (.astore_n 3, 1) := by decide +kernel
theorem dX8_rooms_6 : decode cX8_rooms 6 = .ok (.aload_n 3, 1) := by decide +kernel
theorem dX8_rooms_7 : decode cX8_rooms 7 = .ok (.ifnull 20, 3) := by decide +kernel
theorem dX8_rooms_10 : decode cX8_rooms 10 = .ok (.iload_n 2, 1) := by decide +kernel
theorem dX8_rooms_11 : decode cX8_rooms 11 = .ok (.iconst (-1), 1) := by decide +kernel
theorem dX8_rooms_12 : decode cX8_rooms 12 = .ok (.aload_n 0, 1) := by decide +kernel
theorem dX8_rooms_13 : decode cX8_rooms 13 = .ok (.getfield 12, 3) := by decide +kernel
theorem dX8_rooms_16 : decode cX8_rooms 16 = .ok (.getfield 191, 3) := by decide +kernel
theorem dX8_rooms_19 : decode cX8_rooms 19 = .ok (.iconst 1, 1) := by decide +kernel
theorem dX8_rooms_20 : decode cX8_rooms 20 = .ok (.isub, 1) := by decide +kernel
theorem dX8_rooms_21 : decode cX8_rooms 21 = .ok (.invokestatic 54, 3) := by decide +kernel
theorem dX8_rooms_24 : decode cX8_rooms 24 = .ok (.ifCond .eq 10, 3) := by decide +kernel
theorem dX8_rooms_27 : decode cX8_rooms 27 = .ok (.aload_n 0, 1) := by decide +kernel
theorem dX8_rooms_28 : decode cX8_rooms 28 = .ok (.ldc 58, 2) := by decide +kernel
theorem dX8_rooms_30 : decode cX8_rooms 30 = .ok (.invokevirtual 59, 3) := by decide +kernel
theorem dX8_rooms_33 : decode cX8_rooms 33 = .ok (.ireturn, 1) := by decide +kernel
theorem dX8_rooms_34 : decode cX8_rooms 34 = .ok (.aload_n 3, 1) := by decide +kernel
theorem dX8_rooms_35 : decode cX8_rooms 35 = .ok (.getfield 215, 3) := by decide +kernel
theorem dX8_rooms_38 : decode cX8_rooms 38 = .ok (.ifCond .eq 20, 3) := by decide +kernel
theorem dX8_rooms_41 : decode cX8_rooms 41 = .ok (.aload_n 3, 1) := by decide +kernel
theorem dX8_rooms_42 : decode cX8_rooms 42 = .ok (.getfield 218, 3) := by decide +kernel
theorem dX8_rooms_45 : decode cX8_rooms 45 = .ok (.getfield 143, 3) := by decide +kernel
theorem dX8_rooms_48 : decode cX8_rooms 48 = .ok (.aload_n 0, 1) := by decide +kernel
theorem dX8_rooms_49 : decode cX8_rooms 49 = .ok (.getfield 12, 3) := by decide +kernel
theorem dX8_rooms_52 : decode cX8_rooms 52 = .ok (.getfield 191, 3) := by decide +kernel
theorem dX8_rooms_55 : decode cX8_rooms 55 = .ok (.if_icmp .eq 10, 3) := by decide +kernel
theorem dX8_rooms_58 : decode cX8_rooms 58 = .ok (.aload_n 0, 1) := by decide +kernel
theorem dX8_rooms_59 : decode cX8_rooms 59 = .ok (.ldc 190, 2) := by decide +kernel
theorem dX8_rooms_61 : decode cX8_rooms 61 = .ok (.invokevirtual 59, 3) := by decide +kernel
theorem dX8_rooms_64 : decode cX8_rooms 64 = .ok (.ireturn, 1) := by decide +kernel
theorem dX8_rooms_65 : decode cX8_rooms 65 = .ok (.iconst 0, 1) := by decide +kernel
theorem dX8_rooms_66 : decode cX8_rooms 66 = .ok (.istore 4, 2) := by decide +kernel
theorem dX8_rooms_68 : decode cX8_rooms 68 = .ok (.iload 4, 2) := by decide +kernel
theorem dX8_rooms_70 : decode cX8_rooms 70 = .ok (.aload_n 3, 1) := by decide +kernel
theorem dX8_rooms_71 : decode cX8_rooms 71 = .ok (.getfield 218, 3) := by decide +kernel
theorem dX8_rooms_74 : decode cX8_rooms 74 = .ok (.getfield 143, 3) := by decide +kernel
theorem dX8_rooms_77 : decode cX8_rooms 77 = .ok (.if_icmp .ge 31, 3) := by decide +kernel
theorem dX8_rooms_80 : decode cX8_rooms 80 = .ok (.aload_n 3, 1) := by decide +kernel
theorem dX8_rooms_81 : decode cX8_rooms 81 = .ok (.getfield 218, 3) := by decide +kernel
theorem dX8_rooms_84 : decode cX8_rooms 84 = .ok (.iload 4, 2) := by decide +kernel
theorem dX8_rooms_86 : decode cX8_rooms 86 = .ok (.invokevirtual 221, 3) := by decide +kernel
theorem dX8_rooms_89 : decode cX8_rooms 89 = .ok (.invokestatic 131, 3) := by decide +kernel
theorem dX8_rooms_92 : decode cX8_rooms 92 = .ok (.ifCond .eq 10, 3) := by decide +kernel
theorem dX8_rooms_95 : decode cX8_rooms 95 = .ok (.aload_n 0, 1) := by decide +kernel
theorem dX8_rooms_96 : decode cX8_rooms 96 = .ok (.ldc 190, 2) := by decide +kernel
theorem dX8_rooms_98 : decode cX8_rooms 98 = .ok (.invokevirtual 59, 3) := by decide +kernel
theorem dX8_rooms_101 : decode cX8_rooms 101 = .ok (.ireturn, 1) := by decide +kernel
theorem dX8_rooms_102 : decode cX8_rooms 102 = .ok (.iinc 4 1, 3) := by decide +kernel
theorem dX8_rooms_105 : decode cX8_rooms 105 = .ok (.goto (-37), 3) := by decide +kernel
theorem dX8_rooms_108 : decode cX8_rooms 108 = .ok (.aload_n 0, 1) := by decide +kernel
theorem dX8_rooms_109 : decode cX8_rooms 109 = .ok (.getfield 39, 3) := by decide +kernel
theorem dX8_rooms_112 : decode cX8_rooms 112 = .ok (.getfield 224, 3) := by decide +kernel
theorem dX8_rooms_115 : decode cX8_rooms 115 = .ok (.aload_n 3, 1) := by decide +kernel
theorem dX8_rooms_116 : decode cX8_rooms 116 = .ok (.getfield 218, 3) := by decide +kernel
theorem dX8_rooms_119 : decode cX8_rooms 119 = .ok (.invokevirtual 227, 3) := by decide +kernel
theorem dX8_rooms_122 : decode cX8_rooms 122 = .ok (.iload_n 2, 1) := by decide +kernel
theorem dX8_rooms_123 : decode cX8_rooms 123 = .ok (.ifCond .ge 15, 3) := by decide +kernel
theorem dX8_rooms_126 : decode cX8_rooms 126 = .ok (.aload_n 0, 1) := by decide +kernel
theorem dX8_rooms_127 : decode cX8_rooms 127 = .ok (.getfield 39, 3) := by decide +kernel
theorem dX8_rooms_130 : decode cX8_rooms 130 = .ok (.iconst 0, 1) := by decide +kernel
theorem dX8_rooms_131 : decode cX8_rooms 131 = .ok (.iconst 0, 1) := by decide +kernel
theorem dX8_rooms_132 : decode cX8_rooms 132 = .ok (.invokevirtual 228, 3) := by decide +kernel
theorem dX8_rooms_135 : decode cX8_rooms 135 = .ok (.goto 11, 3) := by decide +kernel
theorem dX8_rooms_138 : decode cX8_rooms 138 = .ok (.aload_n 0, 1) := by decide +kernel
theorem dX8_rooms_139 : decode cX8_rooms 139 = .ok (.getfield 39, 3) := by decide +kernel
theorem dX8_rooms_142 : decode cX8_rooms 142 = .ok (.iload_n 2, 1) := by decide +kernel
theorem dX8_rooms_143 : decode cX8_rooms 143 = .ok (.invokevirtual 231, 3) := by decide +kernel
theorem dX8_rooms_146 : decode cX8_rooms 146 = .ok (.ireturn, 1) := by decide +kernel
theorem dX8_falls_0 : decode cX8_falls 0 = .ok (.iload_n 1, 1) := by decide +kernel
theorem dX8_falls_1 : decode cX8_falls 1 = .ok (.iconst 0, 1) := by decide +kernel
theorem dX8_falls_2 : decode cX8_falls 2 = .ok (.bipush 15, 2) := by decide +kernel
theorem dX8_falls_4 : decode cX8_falls 4 = .ok (.invokestatic 54, 3) := by decide +kernel
theorem dX8_falls_7 : decode cX8_falls 7 = .ok (.ifCond .ne 13, 3) := by decide +kernel
theorem dX8_falls_10 : decode cX8_falls 10 = .ok (.iload_n 2, 1) := by decide +kernel
theorem dX8_falls_11 : decode cX8_falls 11 = .ok (.iconst 0, 1) := by decide +kernel
theorem dX8_falls_12 : decode cX8_falls 12 = .ok (.bipush 6, 2) := by decide +kernel
theorem dX8_falls_14 : decode cX8_falls 14 = .ok (.invokestatic 54, 3) := by decide +kernel
theorem dX8_falls_17 : decode cX8_falls 17 = .ok (.ifCond .eq 10, 3) := by decide +kernel
theorem dX8_falls_20 : decode cX8_falls 20 = .ok (.aload_n 0, 1) := by decide +kernel
theorem dX8_falls_21 : decode cX8_falls 21 = .ok (.ldc 58, 2) := by decide +kernel
theorem dX8_falls_23 : decode cX8_falls 23 = .ok (.invokevirtual 59, 3) := by decide +kernel
theorem dX8_falls_26 : decode cX8_falls 26 = .ok (.ireturn, 1) := by decide +kernel
theorem dX8_falls_27 : decode cX8_falls 27 = .ok (.iconst 0, 1) := by decide +kernel
theorem dX8_falls_28 : decode cX8_falls 28 = .ok (.istore_n 3, 1) := by decide +kernel
theorem dX8_falls_29 : decode cX8_falls 29 = .ok (.iload_n 3, 1) := by decide +kernel
theorem dX8_falls_30 : decode cX8_falls 30 = .ok (.bipush 111, 2) := by decide +kernel
theorem dX8_falls_32 : decode cX8_falls 32 = .ok (.if_icmp .ge 41, 3) := by decide +kernel
theorem dX8_falls_35 : decode cX8_falls 35 = .ok (.aload_n 0, 1) := by decide +kernel
theorem dX8_falls_36 : decode cX8_falls 36 = .ok (.getfield 12, 3) := by decide +kernel
theorem dX8_falls_39 : decode cX8_falls 39 = .ok (.getfield 63, 3) := by decide +kernel
theorem dX8_falls_42 : decode cX8_falls 42 = .ok (.iload_n 3, 1) := by decide +kernel
theorem dX8_falls_43 : decode cX8_falls 43 = .ok (.iadd, 1) := by decide +kernel
theorem dX8_falls_44 : decode cX8_falls 44 = .ok (.bipush 16, 2) := by decide +kernel
theorem dX8_falls_46 : decode cX8_falls 46 = .ok (.irem, 1) := by decide +kernel
theorem dX8_falls_47 : decode cX8_falls 47 = .ok (.iload_n 1, 1) := by decide +kernel
theorem dX8_falls_48 : decode cX8_falls 48 = .ok (.if_icmp .ne 19, 3) := by decide +kernel
theorem dX8_falls_51 : decode cX8_falls 51 = .ok (.aload_n 0, 1) := by decide +kernel
theorem dX8_falls_52 : decode cX8_falls 52 = .ok (.getfield 12, 3) := by decide +kernel
theorem dX8_falls_55 : decode cX8_falls 55 = .ok (.getfield 63, 3) := by decide +kernel
theorem dX8_falls_58 : decode cX8_falls 58 = .ok (.iload_n 3, 1) := by decide +kernel
theorem dX8_falls_59 : decode cX8_falls 59 = .ok (.iadd, 1) := by decide +kernel
theorem dX8_falls_60 : decode cX8_falls 60 = .ok (.bipush 7, 2) := by decide +kernel
theorem dX8_falls_62 : decode cX8_falls 62 = .ok (.irem, 1) := by decide +kernel
theorem dX8_falls_63 : decode cX8_falls 63 = .ok (.iload_n 2, 1) := by decide +kernel
theorem dX8_falls_64 : decode cX8_falls 64 = .ok (.if_icmp .eq 9, 3) := by decide +kernel
theorem dX8_falls_67 : decode cX8_falls 67 = .ok (.iinc 3 1, 3) := by decide +kernel
theorem dX8_falls_70 : decode cX8_falls 70 = .ok (.goto (-41), 3) := by decide +kernel
theorem dX8_falls_73 : decode cX8_falls 73 = .ok (.iload_n 3, 1) := by decide +kernel
theorem dX8_falls_74 : decode cX8_falls 74 = .ok (.ireturn, 1) := by decide +kernel
theorem dX8_was_0 : decode cX8_was 0 = .ok (.aload_n 0, 1) := by decide +kernel
theorem dX8_was_1 : decode cX8_was 1 = .ok (.iload_n 1, 1) := by decide +kernel
theorem dX8_was_2 : decode cX8_was 2 = .ok (.invokevirtual 211, 3) := by decide +kernel
theorem dX8_was_5 : decode cX8_was 5 = .ok (.astore_n 2, 1) := by decide +kernel
theorem dX8_was_6 : decode cX8_was 6 = .ok (.aload_n 2, 1) := by decide +kernel
theorem dX8_was_7 : decode cX8_was 7 = .ok (.ifnonnull 10, 3) := by decide +kernel
theorem dX8_was_10 : decode cX8_was 10 = .ok (.aload_n 0, 1) := by decide +kernel
theorem dX8_was_11 : decode cX8_was 11 = .ok (.ldc 58, 2) := by decide +kernel
theorem dX8_was_13 : decode cX8_was 13 = .ok (.invokevirtual 59, 3) := by decide +kernel
theorem dX8_was_16 : decode cX8_was 16 = .ok (.ireturn, 1) := by decide +kernel
theorem dX8_was_17 : decode cX8_was 17 = .ok (.aload_n 2, 1) := by decide +kernel
theorem dX8_was_18 : decode cX8_was 18 = .ok (.getfield 215, 3) := by decide +kernel
theorem dX8_was_21 : decode cX8_was 21 = .ok (.ifCond .ne 10, 3) := by decide +kernel
theorem dX8_was_24 : decode cX8_was 24 = .ok (.aload_n 0, 1) := by decide +kernel
theorem dX8_was_25 : decode cX8_was 25 = .ok (.ldc 190, 2) := by decide +kernel
theorem dX8_was_27 : decode cX8_was 27 = .ok (.invokevirtual 59, 3) := by decide +kernel
theorem dX8_was_30 : decode cX8_was 30 = .ok (.ireturn, 1) := by decide +kernel
theorem dX8_was_31 : decode cX8_was 31 = .ok (.ldc 234, 2) := by decide +kernel
theorem dX8_was_33 : decode cX8_was 33 = .ok (.istore_n 3, 1) := by decide +kernel
theorem dX8_was_34 : decode cX8_was 34 = .ok (.iconst 0, 1) := by decide +kernel
theorem dX8_was_35 : decode cX8_was 35 = .ok (.istore 4, 2) := by decide +kernel
theorem dX8_was_37 : decode cX8_was 37 = .ok (.iload 4, 2) := by decide +kernel
theorem dX8_was_39 : decode cX8_was 39 = .ok (.aload_n 2, 1) := by decide +kernel
theorem dX8_was_40 : decode cX8_was 40 = .ok (.getfield 218, 3) := by decide +kernel
theorem dX8_was_43 : decode cX8_was 43 = .ok (.getfield 143, 3) := by decide +kernel
theorem dX8_was_46 : decode cX8_was 46 = .ok (.if_icmp .ge 74, 3) := by decide +kernel
theorem dX8_was_49 : decode cX8_was 49 = .ok (.aload_n 2, 1) := by decide +kernel
theorem dX8_was_50 : decode cX8_was 50 = .ok (.getfield 218, 3) := by decide +kernel
theorem dX8_was_53 : decode cX8_was 53 = .ok (.iload 4, 2) := by decide +kernel
theorem dX8_was_55 : decode cX8_was 55 = .ok (.invokevirtual 221, 3) := by decide +kernel
theorem dX8_was_58 : decode cX8_was 58 = .ok (.istore 5, 2) := by decide +kernel
theorem dX8_was_60 : decode cX8_was 60 = .ok (.iload 5, 2) := by decide +kernel
theorem dX8_was_62 : decode cX8_was 62 = .ok (.iconst 0, 1) := by decide +kernel
theorem dX8_was_63 : decode cX8_was 63 = .ok (.iconst 1, 1) := by decide +kernel
theorem dX8_was_64 : decode cX8_was 64 = .ok (.invokestatic 54, 3) := by decide +kernel
theorem dX8_was_67 : decode cX8_was 67 = .ok (.ifCond .eq 10, 3) := by decide +kernel
theorem dX8_was_70 : decode cX8_was 70 = .ok (.aload_n 0, 1) := by decide +kernel
theorem dX8_was_71 : decode cX8_was 71 = .ok (.ldc 190, 2) := by decide +kernel
theorem dX8_was_73 : decode cX8_was 73 = .ok (.invokevirtual 59, 3) := by decide +kernel
theorem dX8_was_76 : decode cX8_was 76 = .ok (.ireturn, 1) := by decide +kernel
theorem dX8_was_77 : decode cX8_was 77 = .ok (.aload_n 0, 1) := by decide +kernel
theorem dX8_was_78 : decode cX8_was 78 = .ok (.getfield 12, 3) := by decide +kernel
theorem dX8_was_81 : decode cX8_was 81 = .ok (.aload_n 0, 1) := by decide +kernel
theorem dX8_was_82 : decode cX8_was 82 = .ok (.getfield 12, 3) := by decide +kernel
theorem dX8_was_85 : decode cX8_was 85 = .ok (.getfield 63, 3) := by decide +kernel
theorem dX8_was_88 : decode cX8_was 88 = .ok (.iload 4, 2) := by decide +kernel
theorem dX8_was_90 : decode cX8_was 90 = .ok (.iadd, 1) := by decide +kernel
theorem dX8_was_91 : decode cX8_was 91 = .ok (.invokevirtual 70, 3) := by decide +kernel
theorem dX8_was_94 : decode cX8_was 94 = .ok (.istore 6, 2) := by decide +kernel
theorem dX8_was_96 : decode cX8_was 96 = .ok (.iload_n 3, 1) := by decide +kernel
theorem dX8_was_97 : decode cX8_was 97 = .ok (.iload 5, 2) := by decide +kernel
theorem dX8_was_99 : decode cX8_was 99 = .ok (.iconst 1, 1) := by decide +kernel
theorem dX8_was_100 : decode cX8_was 100 = .ok (.if_icmp .ne 8, 3) := by decide +kernel
theorem dX8_was_103 : decode cX8_was 103 = .ok (.iload 6, 2) := by decide +kernel
theorem dX8_was_105 : decode cX8_was 105 = .ok (.goto 7, 3) := by decide +kernel
theorem dX8_was_108 : decode cX8_was 108 = .ok (.iload 6, 2) := by decide +kernel
theorem dX8_was_110 : decode cX8_was 110 = .ok (.iconst (-1), 1) := by decide +kernel
theorem dX8_was_111 : decode cX8_was 111 = .ok (.ixor, 1) := by decide +kernel
theorem dX8_was_112 : decode cX8_was 112 = .ok (.iand, 1) := by decide +kernel
theorem dX8_was_113 : decode cX8_was 113 = .ok (.istore_n 3, 1) := by decide +kernel
theorem dX8_was_114 : decode cX8_was 114 = .ok (.iinc 4 1, 3) := by decide +kernel
theorem dX8_was_117 : decode cX8_was 117 = .ok (.goto (-80), 3) := by decide +kernel
theorem dX8_was_120 : decode cX8_was 120 = .ok (.iload_n 3, 1) := by decide +kernel
theorem dX8_was_121 : decode cX8_was 121 = .ok (.ireturn, 1) := by decide +kernel
theorem dX8_dear_0 : decode cX8_dear 0 = .ok (.iload_n 1, 1) := by decide +kernel
theorem dX8_dear_1 : decode cX8_dear 1 = .ok (.iconst 0, 1) := by decide +kernel
theorem dX8_dear_2 : decode cX8_dear 2 = .ok (.bipush 99, 2) := by decide +kernel
theorem dX8_dear_4 : decode cX8_dear 4 = .ok (.invokestatic 54, 3) := by decide +kernel
theorem dX8_dear_7 : decode cX8_dear 7 = .ok (.ifCond .eq 10, 3) := by decide +kernel
theorem dX8_dear_10 : decode cX8_dear 10 = .ok (.aload_n 0, 1) := by decide +kernel
theorem dX8_dear_11 : decode cX8_dear 11 = .ok (.ldc 58, 2) := by decide +kernel
theorem dX8_dear_13 : decode cX8_dear 13 = .ok (.invokevirtual 59, 3) := by decide +kernel
theorem dX8_dear_16 : decode cX8_dear 16 = .ok (.ireturn, 1) := by decide +kernel
theorem dX8_dear_17 : decode cX8_dear 17 = .ok (.aload_n 0, 1) := by decide +kernel
theorem dX8_dear_18 : decode cX8_dear 18 = .ok (.getfield 12, 3) := by decide +kernel
theorem dX8_dear_21 : decode cX8_dear 21 = .ok (.iconst (-1), 1) := by decide +kernel
theorem dX8_dear_22 : decode cX8_dear 22 = .ok (.invokevirtual 208, 3) := by decide +kernel
theorem dX8_dear_25 : decode cX8_dear 25 = .ok (.istore_n 2, 1) := by decide +kernel
theorem dX8_dear_26 : decode cX8_dear 26 = .ok (.iconst (-1), 1) := by decide +kernel
theorem dX8_dear_27 : decode cX8_dear 27 = .ok (.istore_n 3, 1) := by decide +kernel
theorem dX8_dear_28 : decode cX8_dear 28 = .ok (.iconst (-1), 1) := by decide +kernel
theorem dX8_dear_29 : decode cX8_dear 29 = .ok (.istore 4, 2) := by decide +kernel
theorem dX8_dear_31 : decode cX8_dear 31 = .ok (.iconst 0, 1) := by decide +kernel
theorem dX8_dear_32 : decode cX8_dear 32 = .ok (.istore 5, 2) := by decide +kernel
theorem dX8_dear_34 : decode cX8_dear 34 = .ok (.iload 5, 2) := by decide +kernel
theorem dX8_dear_36 : decode cX8_dear 36 = .ok (.bipush 24, 2) := by decide +kernel
theorem dX8_dear_38 : decode cX8_dear 38 = .ok (.if_icmp .ge 50, 3) := by decide +kernel
theorem dX8_dear_41 : decode cX8_dear 41 = .ok (.aload_n 0, 1) := by decide +kernel
theorem dX8_dear_42 : decode cX8_dear 42 = .ok (.getfield 12, 3) := by decide +kernel
theorem dX8_dear_45 : decode cX8_dear 45 = .ok (.iconst 1, 1) := by decide +kernel
theorem dX8_dear_46 : decode cX8_dear 46 = .ok (.iload 5, 2) := by decide +kernel
theorem dX8_dear_48 : decode cX8_dear 48 = .ok (.ishl, 1) := by decide +kernel
theorem dX8_dear_49 : decode cX8_dear 49 = .ok (.invokevirtual 73, 3) := by decide +kernel
theorem dX8_dear_52 : decode cX8_dear 52 = .ok (.istore 6, 2) := by decide +kernel
theorem dX8_dear_54 : decode cX8_dear 54 = .ok (.iload_n 2, 1) := by decide +kernel
theorem dX8_dear_55 : decode cX8_dear 55 = .ok (.iload 5, 2) := by decide +kernel
theorem dX8_dear_57 : decode cX8_dear 57 = .ok (.ishr, 1) := by decide +kernel
theorem dX8_dear_58 : decode cX8_dear 58 = .ok (.iconst 1, 1) := by decide +kernel
theorem dX8_dear_59 : decode cX8_dear 59 = .ok (.iand, 1) := by decide +kernel
theorem dX8_dear_60 : decode cX8_dear 60 = .ok (.ifCond .ne 22, 3) := by decide +kernel
theorem dX8_dear_63 : decode cX8_dear 63 = .ok (.iload 6, 2) := by decide +kernel
theorem dX8_dear_65 : decode cX8_dear 65 = .ok (.iload_n 1, 1) := by decide +kernel
theorem dX8_dear_66 : decode cX8_dear 66 = .ok (.if_icmp .gt 16, 3) := by decide +kernel
theorem dX8_dear_69 : decode cX8_dear 69 = .ok (.iload 6, 2) := by decide +kernel
theorem dX8_dear_71 : decode cX8_dear 71 = .ok (.iload_n 3, 1) := by decide +kernel
theorem dX8_dear_72 : decode cX8_dear 72 = .ok (.if_icmp .le 10, 3) := by decide +kernel
theorem dX8_dear_75 : decode cX8_dear 75 = .ok (.iload 6, 2) := by decide +kernel
theorem dX8_dear_77 : decode cX8_dear 77 = .ok (.istore_n 3, 1) := by decide +kernel
theorem dX8_dear_78 : decode cX8_dear 78 = .ok (.iload 5, 2) := by decide +kernel
theorem dX8_dear_80 : decode cX8_dear 80 = .ok (.istore 4, 2) := by decide +kernel
theorem dX8_dear_82 : decode cX8_dear 82 = .ok (.iinc 5 1, 3) := by decide +kernel
theorem dX8_dear_85 : decode cX8_dear 85 = .ok (.goto (-51), 3) := by decide +kernel
theorem dX8_dear_88 : decode cX8_dear 88 = .ok (.iload 4, 2) := by decide +kernel
theorem dX8_dear_90 : decode cX8_dear 90 = .ok (.ifCond .ge 12, 3) := by decide +kernel
theorem dX8_dear_93 : decode cX8_dear 93 = .ok (.aload_n 0, 1) := by decide +kernel
theorem dX8_dear_94 : decode cX8_dear 94 = .ok (.ldc 190, 2) := by decide +kernel
theorem dX8_dear_96 : decode cX8_dear 96 = .ok (.invokevirtual 59, 3) := by decide +kernel
theorem dX8_dear_99 : decode cX8_dear 99 = .ok (.goto 5, 3) := by decide +kernel
theorem dX8_dear_102 : decode cX8_dear 102 = .ok (.iload 4, 2) := by decide +kernel
theorem dX8_dear_104 : decode cX8_dear 104 = .ok (.ireturn, 1) := by decide +kernel
theorem dX8_seed_0 : decode cX8_seed 0 = .ok (.aload_n 0, 1) := by decide +kernel
theorem dX8_seed_1 : decode cX8_seed 1 = .ok (.getfield 12, 3) := by decide +kernel
theorem dX8_seed_4 : decode cX8_seed 4 = .ok (.getfield 235, 3) := by decide +kernel
theorem dX8_seed_7 : decode cX8_seed 7 = .ok (.istore_n 2, 1) := by decide +kernel
theorem dX8_seed_8 : decode cX8_seed 8 = .ok (.aload_n 0, 1) := by decide +kernel
theorem dX8_seed_9 : decode cX8_seed 9 = .ok (.getfield 12, 3) := by decide +kernel
theorem dX8_seed_12 : decode cX8_seed 12 = .ok (.iload_n 1, 1) := by decide +kernel
theorem dX8_seed_13 : decode cX8_seed 13 = .ok (.putfield 235, 3) := by decide +kernel
theorem dX8_seed_16 : decode cX8_seed 16 = .ok (.iload_n 2, 1) := by decide +kernel
theorem dX8_seed_17 : decode cX8_seed 17 = .ok (.ireturn, 1) := by decide +kernel
theorem dX8_voice_0 : decode cX8_voice 0 = .ok (.aload_n 0, 1) := by decide +kernel
theorem dX8_voice_1 : decode cX8_voice 1 = .ok (.getfield 12, 3) := by decide +kernel
theorem dX8_voice_4 : decode cX8_voice 4 = .ok (.iload_n 1, 1) := by decide +kernel
theorem dX8_voice_5 : decode cX8_voice 5 = .ok (.invokevirtual 91, 3) := by decide +kernel
theorem dX8_voice_8 : decode cX8_voice 8 = .ok (.astore 4, 2) := by decide +kernel
theorem dX8_voice_10 : decode cX8_voice 10 = .ok (.aload 4, 2) := by decide +kernel
theorem dX8_voice_12 : decode cX8_voice 12 = .ok (.ifnull 12, 3) := by decide +kernel
theorem dX8_voice_15 : decode cX8_voice 15 = .ok (.iload_n 2, 1) := by decide +kernel
theorem dX8_voice_16 : decode cX8_voice 16 = .ok (.iconst 0, 1) := by decide +kernel
theorem dX8_voice_17 : decode cX8_voice 17 = .ok (.iconst 3, 1) := by decide +kernel
theorem dX8_voice_18 : decode cX8_voice 18 = .ok (.invokestatic 54, 3) := by decide +kernel
theorem dX8_voice_21 : decode cX8_voice 21 = .ok (.ifCond .eq 10, 3) := by decide +kernel
theorem dX8_voice_24 : decode cX8_voice 24 = .ok (.aload_n 0, 1) := by decide +kernel
theorem dX8_voice_25 : decode cX8_voice 25 = .ok (.ldc 58, 2) := by decide +kernel
theorem dX8_voice_27 : decode cX8_voice 27 = .ok (.invokevirtual 59, 3) := by decide +kernel
theorem dX8_voice_30 : decode cX8_voice 30 = .ok (.ireturn, 1) := by decide +kernel
theorem dX8_voice_31 : decode cX8_voice 31 = .ok (.aload_n 0, 1) := by decide +kernel
theorem dX8_voice_32 : decode cX8_voice 32 = .ok (.getfield 32, 3) := by decide +kernel
theorem dX8_voice_35 : decode cX8_voice 35 = .ok (.aload 4, 2) := by decide +kernel
theorem dX8_voice_37 : decode cX8_voice 37 = .ok (.iload_n 1, 1) := by decide +kernel
theorem dX8_voice_38 : decode cX8_voice 38 = .ok (.iload_n 2, 1) := by decide +kernel
theorem dX8_voice_39 : decode cX8_voice 39 = .ok (.iload_n 3, 1) := by decide +kernel
theorem dX8_voice_40 : decode cX8_voice 40 = .ok (.invokevirtual 238, 3) := by decide +kernel
theorem dX8_voice_43 : decode cX8_voice 43 = .ok (.ireturn, 1) := by decide +kernel
theorem dX8_trace_0 : decode cX8_trace 0 = .ok (.aload_n 0, 1) := by decide +kernel
theorem dX8_trace_1 : decode cX8_trace 1 = .ok (.getfield 32, 3) := by decide +kernel
theorem dX8_trace_4 : decode cX8_trace 4 = .ok (.getfield 242, 3) := by decide +kernel
theorem dX8_trace_7 : decode cX8_trace 7 = .ok (.iload_n 1, 1) := by decide +kernel
theorem dX8_trace_8 : decode cX8_trace 8 = .ok (.invokevirtual 245, 3) := by decide +kernel
theorem dX8_trace_11 : decode cX8_trace 11 = .ok (.ifCond .eq 17, 3) := by decide +kernel
theorem dX8_trace_14 : decode cX8_trace 14 = .ok (.aload_n 0, 1) := by decide +kernel
theorem dX8_trace_15 : decode cX8_trace 15 = .ok (.getfield 32, 3) := by decide +kernel
theorem dX8_trace_18 : decode cX8_trace 18 = .ok (.getfield 242, 3) := by decide +kernel
theorem dX8_trace_21 : decode cX8_trace 21 = .ok (.iload_n 1, 1) := by decide +kernel
theorem dX8_trace_22 : decode cX8_trace 22 = .ok (.invokevirtual 221, 3) := by decide +kernel
theorem dX8_trace_25 : decode cX8_trace 25 = .ok (.goto 9, 3) := by decide +kernel
theorem dX8_trace_28 : decode cX8_trace 28 = .ok (.aload_n 0, 1) := by decide +kernel
theorem dX8_trace_29 : decode cX8_trace 29 = .ok (.ldc 190, 2) := by decide +kernel
theorem dX8_trace_31 : decode cX8_trace 31 = .ok (.invokevirtual 59, 3) := by decide +kernel
theorem dX8_trace_34 : decode cX8_trace 34 = .ok (.ireturn, 1) := by decide +kernel
theorem dX8_sheet_0 : decode cX8_sheet 0 = .ok (.aload_n 0, 1) := by decide +kernel
theorem dX8_sheet_1 : decode cX8_sheet 1 = .ok (.iload_n 1, 1) := by decide +kernel
theorem dX8_sheet_2 : decode cX8_sheet 2 = .ok (.invokevirtual 211, 3) := by decide +kernel
theorem dX8_sheet_5 : decode cX8_sheet 5 = .ok (.astore 4, 2) := by decide +kernel
theorem dX8_sheet_7 : decode cX8_sheet 7 = .ok (.aload 4, 2) := by decide +kernel
theorem dX8_sheet_9 : decode cX8_sheet 9 = .ok (.ifnull 25, 3) := by decide +kernel
theorem dX8_sheet_12 : decode cX8_sheet 12 = .ok (.iload_n 2, 1) := by decide +kernel
theorem dX8_sheet_13 : decode cX8_sheet 13 = .ok (.ifCond .eq 28, 3) := by decide +kernel
theorem dX8_sheet_16 : decode cX8_sheet 16 = .ok (.iload_n 2, 1) := by decide +kernel
theorem dX8_sheet_17 : decode cX8_sheet 17 = .ok (.bipush 8, 2) := by decide +kernel
theorem dX8_sheet_19 : decode cX8_sheet 19 = .ok (.if_icmp .eq 22, 3) := by decide +kernel
theorem dX8_sheet_22 : decode cX8_sheet 22 = .ok (.iload_n 2, 1) := by decide +kernel
theorem dX8_sheet_23 : decode cX8_sheet 23 = .ok (.bipush 16, 2) := by decide +kernel
theorem dX8_sheet_25 : decode cX8_sheet 25 = .ok (.if_icmp .eq 16, 3) := by decide +kernel
theorem dX8_sheet_28 : decode cX8_sheet 28 = .ok (.iload_n 2, 1) := by decide +kernel
theorem dX8_sheet_29 : decode cX8_sheet 29 = .ok (.bipush 32, 2) := by decide +kernel
theorem dX8_sheet_31 : decode cX8_sheet 31 = .ok (.if_icmp .eq 10, 3) := by decide +kernel
theorem dX8_sheet_34 : decode cX8_sheet 34 = .ok (.aload_n 0, 1) := by decide +kernel
theorem dX8_sheet_35 : decode cX8_sheet 35 = .ok (.ldc 58, 2) := by decide +kernel
theorem dX8_sheet_37 : decode cX8_sheet 37 = .ok (.invokevirtual 59, 3) := by decide +kernel
theorem dX8_sheet_40 : decode cX8_sheet 40 = .ok (.ireturn, 1) := by decide +kernel
theorem dX8_sheet_41 : decode cX8_sheet 41 = .ok (.iload_n 2, 1) := by decide +kernel
theorem dX8_sheet_42 : decode cX8_sheet 42 = .ok (.ifCond .eq 14, 3) := by decide +kernel
theorem dX8_sheet_45 : decode cX8_sheet 45 = .ok (.iload_n 3, 1) := by decide +kernel
theorem dX8_sheet_46 : decode cX8_sheet 46 = .ok (.ifCond .ge 10, 3) := by decide +kernel
theorem dX8_sheet_49 : decode cX8_sheet 49 = .ok (.aload_n 0, 1) := by decide +kernel
theorem dX8_sheet_50 : decode cX8_sheet 50 = .ok (.ldc 134, 2) := by decide +kernel
theorem dX8_sheet_52 : decode cX8_sheet 52 = .ok (.invokevirtual 59, 3) := by decide +kernel
theorem dX8_sheet_55 : decode cX8_sheet 55 = .ok (.ireturn, 1) := by decide +kernel
theorem dX8_sheet_56 : decode cX8_sheet 56 = .ok (.iload_n 2, 1) := by decide +kernel
theorem dX8_sheet_57 : decode cX8_sheet 57 = .ok (.ifCond .eq 16, 3) := by decide +kernel
theorem dX8_sheet_60 : decode cX8_sheet 60 = .ok (.iload_n 3, 1) := by decide +kernel
theorem dX8_sheet_61 : decode cX8_sheet 61 = .ok (.bipush 40, 2) := by decide +kernel
theorem dX8_sheet_63 : decode cX8_sheet 63 = .ok (.if_icmp .le 10, 3) := by decide +kernel
theorem dX8_sheet_66 : decode cX8_sheet 66 = .ok (.aload_n 0, 1) := by decide +kernel
theorem dX8_sheet_67 : decode cX8_sheet 67 = .ok (.ldc 58, 2) := by decide +kernel
theorem dX8_sheet_69 : decode cX8_sheet 69 = .ok (.invokevirtual 59, 3) := by decide +kernel
theorem dX8_sheet_72 : decode cX8_sheet 72 = .ok (.ireturn, 1) := by decide +kernel
theorem dX8_sheet_73 : decode cX8_sheet 73 = .ok (.aload 4, 2) := by decide +kernel
theorem dX8_sheet_75 : decode cX8_sheet 75 = .ok (.iload_n 2, 1) := by decide +kernel
theorem dX8_sheet_76 : decode cX8_sheet 76 = .ok (.putfield 215, 3) := by decide +kernel
theorem dX8_sheet_79 : decode cX8_sheet 79 = .ok (.aload 4, 2) := by decide +kernel
theorem dX8_sheet_81 : decode cX8_sheet 81 = .ok (.getfield 218, 3) := by decide +kernel
theorem dX8_sheet_84 : decode cX8_sheet 84 = .ok (.iload_n 2, 1) := by decide +kernel
theorem dX8_sheet_85 : decode cX8_sheet 85 = .ok (.ifCond .ne 7, 3) := by decide +kernel
theorem dX8_sheet_88 : decode cX8_sheet 88 = .ok (.iconst 0, 1) := by decide +kernel
theorem dX8_sheet_89 : decode cX8_sheet 89 = .ok (.goto 4, 3) := by decide +kernel
theorem dX8_sheet_92 : decode cX8_sheet 92 = .ok (.iload_n 3, 1) := by decide +kernel
theorem dX8_sheet_93 : decode cX8_sheet 93 = .ok (.invokevirtual 248, 3) := by decide +kernel
theorem dX8_sheet_96 : decode cX8_sheet 96 = .ok (.iconst 1, 1) := by decide +kernel
theorem dX8_sheet_97 : decode cX8_sheet 97 = .ok (.ireturn, 1) := by decide +kernel
theorem dX8_put_0 : decode cX8_put 0 = .ok (.aload_n 0, 1) := by decide +kernel
theorem dX8_put_1 : decode cX8_put 1 = .ok (.iload_n 1, 1) := by decide +kernel
theorem dX8_put_2 : decode cX8_put 2 = .ok (.invokevirtual 211, 3) := by decide +kernel
theorem dX8_put_5 : decode cX8_put 5 = .ok (.astore 4, 2) := by decide +kernel
theorem dX8_put_7 : decode cX8_put 7 = .ok (.aload 4, 2) := by decide +kernel
theorem dX8_put_9 : decode cX8_put 9 = .ok (.ifnonnull 10, 3) := by decide +kernel
theorem dX8_put_12 : decode cX8_put 12 = .ok (.aload_n 0, 1) := by decide +kernel
theorem dX8_put_13 : decode cX8_put 13 = .ok (.ldc 58, 2) := by decide +kernel
theorem dX8_put_15 : decode cX8_put 15 = .ok (.invokevirtual 59, 3) := by decide +kernel
theorem dX8_put_18 : decode cX8_put 18 = .ok (.ireturn, 1) := by decide +kernel
theorem dX8_put_19 : decode cX8_put 19 = .ok (.aload 4, 2) := by decide +kernel
theorem dX8_put_21 : decode cX8_put 21 = .ok (.getfield 215, 3) := by decide +kernel
theorem dX8_put_24 : decode cX8_put 24 = .ok (.ifCond .ne 10, 3) := by decide +kernel
theorem dX8_put_27 : decode cX8_put 27 = .ok (.aload_n 0, 1) := by decide +kernel
theorem dX8_put_28 : decode cX8_put 28 = .ok (.ldc 190, 2) := by decide +kernel
theorem dX8_put_30 : decode cX8_put 30 = .ok (.invokevirtual 59, 3) := by decide +kernel
theorem dX8_put_33 : decode cX8_put 33 = .ok (.ireturn, 1) := by decide +kernel
theorem dX8_put_34 : decode cX8_put 34 = .ok (.aload 4, 2) := by decide +kernel
theorem dX8_put_36 : decode cX8_put 36 = .ok (.getfield 218, 3) := by decide +kernel
theorem dX8_put_39 : decode cX8_put 39 = .ok (.iload_n 2, 1) := by decide +kernel
theorem dX8_put_40 : decode cX8_put 40 = .ok (.invokevirtual 245, 3) := by decide +kernel
theorem dX8_put_43 : decode cX8_put 43 = .ok (.ifCond .ne 10, 3) := by decide +kernel
theorem dX8_put_46 : decode cX8_put 46 = .ok (.aload_n 0, 1) := by decide +kernel
theorem dX8_put_47 : decode cX8_put 47 = .ok (.ldc 58, 2) := by decide +kernel
theorem dX8_put_49 : decode cX8_put 49 = .ok (.invokevirtual 59, 3) := by decide +kernel
theorem dX8_put_52 : decode cX8_put 52 = .ok (.ireturn, 1) := by decide +kernel
theorem dX8_put_53 : decode cX8_put 53 = .ok (.aload 4, 2) := by decide +kernel
theorem dX8_put_55 : decode cX8_put 55 = .ok (.getfield 218, 3) := by decide +kernel
theorem dX8_put_58 : decode cX8_put 58 = .ok (.iload_n 2, 1) := by decide +kernel
theorem dX8_put_59 : decode cX8_put 59 = .ok (.aload 4, 2) := by decide +kernel
theorem dX8_put_61 : decode cX8_put 61 = .ok (.iload_n 3, 1) := by decide +kernel
theorem dX8_put_62 : decode cX8_put 62 = .ok (.invokevirtual 251, 3) := by decide +kernel
theorem dX8_put_65 : decode cX8_put 65 = .ok (.invokevirtual 254, 3) := by decide +kernel
theorem dX8_put_68 : decode cX8_put 68 = .ok (.iconst 1, 1) := by decide +kernel
theorem dX8_put_69 : decode cX8_put 69 = .ok (.ireturn, 1) := by decide +kernel
theorem dX8_move_0 : decode cX8_move 0 = .ok (.aload_n 0, 1) := by decide +kernel
theorem dX8_move_1 : decode cX8_move 1 = .ok (.iload_n 1, 1) := by decide +kernel
theorem dX8_move_2 : decode cX8_move 2 = .ok (.invokevirtual 211, 3) := by decide +kernel
theorem dX8_move_5 : decode cX8_move 5 = .ok (.astore 6, 2) := by decide +kernel
theorem dX8_move_7 : decode cX8_move 7 = .ok (.aload_n 0, 1) := by decide +kernel
theorem dX8_move_8 : decode cX8_move 8 = .ok (.iload_n 3, 1) := by decide +kernel
theorem dX8_move_9 : decode cX8_move 9 = .ok (.invokevirtual 211, 3) := by decide +kernel
theorem dX8_move_12 : decode cX8_move 12 = .ok (.astore 7, 2) := by decide +kernel
theorem dX8_move_14 : decode cX8_move 14 = .ok (.aload 6, 2) := by decide +kernel
theorem dX8_move_16 : decode cX8_move 16 = .ok (.ifnull 8, 3) := by decide +kernel
theorem dX8_move_19 : decode cX8_move 19 = .ok (.aload 7, 2) := by decide +kernel
theorem dX8_move_21 : decode cX8_move 21 = .ok (.ifnonnull 10, 3) := by decide +kernel
theorem dX8_move_24 : decode cX8_move 24 = .ok (.aload_n 0, 1) := by decide +kernel
theorem dX8_move_25 : decode cX8_move 25 = .ok (.ldc 58, 2) := by decide +kernel
theorem dX8_move_27 : decode cX8_move 27 = .ok (.invokevirtual 59, 3) := by decide +kernel
theorem dX8_move_30 : decode cX8_move 30 = .ok (.ireturn, 1) := by decide +kernel
theorem dX8_move_31 : decode cX8_move 31 = .ok (.aload 6, 2) := by decide +kernel
theorem dX8_move_33 : decode cX8_move 33 = .ok (.getfield 215, 3) := by decide +kernel
theorem dX8_move_36 : decode cX8_move 36 = .ok (.ifCond .eq 11, 3) := by decide +kernel
theorem dX8_move_39 : decode cX8_move 39 = .ok (.aload 7, 2) := by decide +kernel
theorem dX8_move_41 : decode cX8_move 41 = .ok (.getfield 215, 3) := by decide +kernel
theorem dX8_move_44 : decode cX8_move 44 = .ok (.ifCond .ne 10, 3) := by decide +kernel
theorem dX8_move_47 : decode cX8_move 47 = .ok (.aload_n 0, 1) := by decide +kernel
theorem dX8_move_48 : decode cX8_move 48 = .ok (.ldc 190, 2) := by decide +kernel
theorem dX8_move_50 : decode cX8_move 50 = .ok (.invokevirtual 59, 3) := by decide +kernel
theorem dX8_move_53 : decode cX8_move 53 = .ok (.ireturn, 1) := by decide +kernel
theorem dX8_move_54 : decode cX8_move 54 = .ok (.aload 6, 2) := by decide +kernel
theorem dX8_move_56 : decode cX8_move 56 = .ok (.getfield 215, 3) := by decide +kernel
theorem dX8_move_59 : decode cX8_move 59 = .ok (.aload 7, 2) := by decide +kernel
theorem dX8_move_61 : decode cX8_move 61 = .ok (.getfield 215, 3) := by decide +kernel
theorem dX8_move_64 : decode cX8_move 64 = .ok (.if_icmp .eq 10, 3) := by decide +kernel
theorem dX8_move_67 : decode cX8_move 67 = .ok (.aload_n 0, 1) := by decide +kernel
theorem dX8_move_68 : decode cX8_move 68 = .ok (.ldc 130, 2) := by decide +kernel
theorem dX8_move_70 : decode cX8_move 70 = .ok (.invokevirtual 59, 3) := by decide +kernel
theorem dX8_move_73 : decode cX8_move 73 = .ok (.ireturn, 1) := by decide +kernel
theorem dX8_move_74 : decode cX8_move 74 = .ok (.aload 7, 2) := by decide +kernel
theorem dX8_move_76 : decode cX8_move 76 = .ok (.getfield 218, 3) := by decide +kernel
theorem dX8_move_79 : decode cX8_move 79 = .ok (.aload 6, 2) := by decide +kernel
theorem dX8_move_81 : decode cX8_move 81 = .ok (.getfield 218, 3) := by decide +kernel
theorem dX8_move_84 : decode cX8_move 84 = .ok (.iload_n 2, 1) := by decide +kernel
theorem dX8_move_85 : decode cX8_move 85 = .ok (.iload 4, 2) := by decide +kernel
theorem dX8_move_87 : decode cX8_move 87 = .ok (.iload 5, 2) := by decide +kernel
theorem dX8_move_89 : decode cX8_move 89 = .ok (.invokevirtual 258, 3) := by decide +kernel
theorem dX8_move_92 : decode cX8_move 92 = .ok (.ifCond .eq 8, 3) := by decide +kernel
theorem dX8_move_95 : decode cX8_move 95 = .ok (.iload 5, 2) := by decide +kernel
theorem dX8_move_97 : decode cX8_move 97 = .ok (.goto 9, 3) := by decide +kernel
theorem dX8_move_100 : decode cX8_move 100 = .ok (.aload_n 0, 1) := by decide +kernel
theorem dX8_move_101 : decode cX8_move 101 = .ok (.ldc 58, 2) := by decide +kernel
theorem dX8_move_103 : decode cX8_move 103 = .ok (.invokevirtual 59, 3) := by decide +kernel
theorem dX8_move_106 : decode cX8_move 106 = .ok (.ireturn, 1) := by decide +kernel
theorem dX8_leases_0 : decode cX8_leases 0 = .ok (.aload_n 0, 1) := by decide +kernel
theorem dX8_leases_1 : decode cX8_leases 1 = .ok (.iload_n 1, 1) := by decide +kernel
theorem dX8_leases_2 : decode cX8_leases 2 = .ok (.invokevirtual 211, 3) := by decide +kernel
theorem dX8_leases_5 : decode cX8_leases 5 = .ok (.astore_n 2, 1) := by decide +kernel
theorem dX8_leases_6 : decode cX8_leases 6 = .ok (.aload_n 2, 1) := by decide +kernel
theorem dX8_leases_7 : decode cX8_leases 7 = .ok (.ifnonnull 10, 3) := by decide +kernel
theorem dX8_leases_10 : decode cX8_leases 10 = .ok (.aload_n 0, 1) := by decide +kernel
theorem dX8_leases_11 : decode cX8_leases 11 = .ok (.ldc 58, 2) := by decide +kernel
theorem dX8_leases_13 : decode cX8_leases 13 = .ok (.invokevirtual 59, 3) := by decide +kernel
theorem dX8_leases_16 : decode cX8_leases 16 = .ok (.ireturn, 1) := by decide +kernel
theorem dX8_leases_17 : decode cX8_leases 17 = .ok (.aload_n 2, 1) := by decide +kernel
theorem dX8_leases_18 : decode cX8_leases 18 = .ok (.getfield 215, 3) := by decide +kernel
theorem dX8_leases_21 : decode cX8_leases 21 = .ok (.ifCond .ne 10, 3) := by decide +kernel
theorem dX8_leases_24 : decode cX8_leases 24 = .ok (.aload_n 0, 1) := by decide +kernel
theorem dX8_leases_25 : decode cX8_leases 25 = .ok (.ldc 190, 2) := by decide +kernel
theorem dX8_leases_27 : decode cX8_leases 27 = .ok (.invokevirtual 59, 3) := by decide +kernel
theorem dX8_leases_30 : decode cX8_leases 30 = .ok (.ireturn, 1) := by decide +kernel
theorem dX8_leases_31 : decode cX8_leases 31 = .ok (.iconst 0, 1) := by decide +kernel
theorem dX8_leases_32 : decode cX8_leases 32 = .ok (.istore_n 3, 1) := by decide +kernel
theorem dX8_leases_33 : decode cX8_leases 33 = .ok (.iload_n 3, 1) := by decide +kernel
theorem dX8_leases_34 : decode cX8_leases 34 = .ok (.aload_n 2, 1) := by decide +kernel
theorem dX8_leases_35 : decode cX8_leases 35 = .ok (.getfield 218, 3) := by decide +kernel
theorem dX8_leases_38 : decode cX8_leases 38 = .ok (.getfield 143, 3) := by decide +kernel
theorem dX8_leases_41 : decode cX8_leases 41 = .ok (.if_icmp .ge 59, 3) := by decide +kernel
theorem dX8_leases_44 : decode cX8_leases 44 = .ok (.aload_n 0, 1) := by decide +kernel
theorem dX8_leases_45 : decode cX8_leases 45 = .ok (.getfield 12, 3) := by decide +kernel
theorem dX8_leases_48 : decode cX8_leases 48 = .ok (.iload_n 3, 1) := by decide +kernel
theorem dX8_leases_49 : decode cX8_leases 49 = .ok (.invokevirtual 91, 3) := by decide +kernel
theorem dX8_leases_52 : decode cX8_leases 52 = .ok (.astore 4, 2) := by decide +kernel
theorem dX8_leases_54 : decode cX8_leases 54 = .ok (.aload_n 2, 1) := by decide +kernel
theorem dX8_leases_55 : decode cX8_leases 55 = .ok (.getfield 218, 3) := by decide +kernel
theorem dX8_leases_58 : decode cX8_leases 58 = .ok (.iload_n 3, 1) := by decide +kernel
theorem dX8_leases_59 : decode cX8_leases 59 = .ok (.invokevirtual 221, 3) := by decide +kernel
theorem dX8_leases_62 : decode cX8_leases 62 = .ok (.istore 5, 2) := by decide +kernel
theorem dX8_leases_64 : decode cX8_leases 64 = .ok (.iload 5, 2) := by decide +kernel
theorem dX8_leases_66 : decode cX8_leases 66 = .ok (.invokestatic 131, 3) := by decide +kernel
theorem dX8_leases_69 : decode cX8_leases 69 = .ok (.ifCond .ne 16, 3) := by decide +kernel
theorem dX8_leases_72 : decode cX8_leases 72 = .ok (.aload 4, 2) := by decide +kernel
theorem dX8_leases_74 : decode cX8_leases 74 = .ok (.ifnull 11, 3) := by decide +kernel
theorem dX8_leases_77 : decode cX8_leases 77 = .ok (.aload 4, 2) := by decide +kernel
theorem dX8_leases_79 : decode cX8_leases 79 = .ok (.getfield 110, 3) := by decide +kernel
theorem dX8_leases_82 : decode cX8_leases 82 = .ok (.ifCond .eq 5, 3) := by decide +kernel
theorem dX8_leases_85 : decode cX8_leases 85 = .ok (.iload_n 3, 1) := by decide +kernel
theorem dX8_leases_86 : decode cX8_leases 86 = .ok (.ireturn, 1) := by decide +kernel
theorem dX8_leases_87 : decode cX8_leases 87 = .ok (.aload 4, 2) := by decide +kernel
theorem dX8_leases_89 : decode cX8_leases 89 = .ok (.iload 5, 2) := by decide +kernel
theorem dX8_leases_91 : decode cX8_leases 91 = .ok (.putfield 103, 3) := by decide +kernel
theorem dX8_leases_94 : decode cX8_leases 94 = .ok (.iinc 3 1, 3) := by decide +kernel
theorem dX8_leases_97 : decode cX8_leases 97 = .ok (.goto (-64), 3) := by decide +kernel
theorem dX8_leases_100 : decode cX8_leases 100 = .ok (.aload_n 2, 1) := by decide +kernel
theorem dX8_leases_101 : decode cX8_leases 101 = .ok (.getfield 218, 3) := by decide +kernel
theorem dX8_leases_104 : decode cX8_leases 104 = .ok (.getfield 143, 3) := by decide +kernel
theorem dX8_leases_107 : decode cX8_leases 107 = .ok (.ireturn, 1) := by decide +kernel
theorem dX8_judge_0 : decode cX8_judge 0 = .ok (.aload_n 0, 1) := by decide +kernel
theorem dX8_judge_1 : decode cX8_judge 1 = .ok (.iload_n 1, 1) := by decide +kernel
theorem dX8_judge_2 : decode cX8_judge 2 = .ok (.invokevirtual 211, 3) := by decide +kernel
theorem dX8_judge_5 : decode cX8_judge 5 = .ok (.astore_n 2, 1) := by decide +kernel
theorem dX8_judge_6 : decode cX8_judge 6 = .ok (.aload_n 2, 1) := by decide +kernel
theorem dX8_judge_7 : decode cX8_judge 7 = .ok (.ifnonnull 10, 3) := by decide +kernel
theorem dX8_judge_10 : decode cX8_judge 10 = .ok (.aload_n 0, 1) := by decide +kernel
theorem dX8_judge_11 : decode cX8_judge 11 = .ok (.ldc 58, 2) := by decide +kernel
theorem dX8_judge_13 : decode cX8_judge 13 = .ok (.invokevirtual 59, 3) := by decide +kernel
theorem dX8_judge_16 : decode cX8_judge 16 = .ok (.ireturn, 1) := by decide +kernel
theorem dX8_judge_17 : decode cX8_judge 17 = .ok (.aload_n 2, 1) := by decide +kernel
theorem dX8_judge_18 : decode cX8_judge 18 = .ok (.getfield 215, 3) := by decide +kernel
theorem dX8_judge_21 : decode cX8_judge 21 = .ok (.ifCond .ne 10, 3) := by decide +kernel
theorem dX8_judge_24 : decode cX8_judge 24 = .ok (.aload_n 0, 1) := by decide +kernel
theorem dX8_judge_25 : decode cX8_judge 25 = .ok (.ldc 190, 2) := by decide +kernel
theorem dX8_judge_27 : decode cX8_judge 27 = .ok (.invokevirtual 59, 3) := by decide +kernel
theorem dX8_judge_30 : decode cX8_judge 30 = .ok (.ireturn, 1) := by decide +kernel
theorem dX8_judge_31 : decode cX8_judge 31 = .ok (.aload_n 2, 1) := by decide +kernel
theorem dX8_judge_32 : decode cX8_judge 32 = .ok (.getfield 218, 3) := by decide +kernel
theorem dX8_judge_35 : decode cX8_judge 35 = .ok (.getfield 143, 3) := by decide +kernel
theorem dX8_judge_38 : decode cX8_judge 38 = .ok (.aload_n 0, 1) := by decide +kernel
theorem dX8_judge_39 : decode cX8_judge 39 = .ok (.getfield 12, 3) := by decide +kernel
theorem dX8_judge_42 : decode cX8_judge 42 = .ok (.getfield 191, 3) := by decide +kernel
theorem dX8_judge_45 : decode cX8_judge 45 = .ok (.invokestatic 262, 3) := by decide +kernel
theorem dX8_judge_48 : decode cX8_judge 48 = .ok (.istore_n 3, 1) := by decide +kernel
theorem dX8_judge_49 : decode cX8_judge 49 = .ok (.iconst 0, 1) := by decide +kernel
theorem dX8_judge_50 : decode cX8_judge 50 = .ok (.istore 4, 2) := by decide +kernel
theorem dX8_judge_52 : decode cX8_judge 52 = .ok (.iload 4, 2) := by decide +kernel
theorem dX8_judge_54 : decode cX8_judge 54 = .ok (.iload_n 3, 1) := by decide +kernel
theorem dX8_judge_55 : decode cX8_judge 55 = .ok (.if_icmp .ge 45, 3) := by decide +kernel
theorem dX8_judge_58 : decode cX8_judge 58 = .ok (.aload_n 0, 1) := by decide +kernel
theorem dX8_judge_59 : decode cX8_judge 59 = .ok (.getfield 12, 3) := by decide +kernel
theorem dX8_judge_62 : decode cX8_judge 62 = .ok (.iload 4, 2) := by decide +kernel
theorem dX8_judge_64 : decode cX8_judge 64 = .ok (.invokevirtual 91, 3) := by decide +kernel
theorem dX8_judge_67 : decode cX8_judge 67 = .ok (.astore 5, 2) := by decide +kernel
theorem dX8_judge_69 : decode cX8_judge 69 = .ok (.aload 5, 2) := by decide +kernel
theorem dX8_judge_71 : decode cX8_judge 71 = .ok (.ifnull 20, 3) := by decide +kernel
theorem dX8_judge_74 : decode cX8_judge 74 = .ok (.aload 5, 2) := by decide +kernel
theorem dX8_judge_76 : decode cX8_judge 76 = .ok (.getfield 106, 3) := by decide +kernel
theorem dX8_judge_79 : decode cX8_judge 79 = .ok (.aload_n 2, 1) := by decide +kernel
theorem dX8_judge_80 : decode cX8_judge 80 = .ok (.getfield 218, 3) := by decide +kernel
theorem dX8_judge_83 : decode cX8_judge 83 = .ok (.iload 4, 2) := by decide +kernel
theorem dX8_judge_85 : decode cX8_judge 85 = .ok (.invokevirtual 221, 3) := by decide +kernel
theorem dX8_judge_88 : decode cX8_judge 88 = .ok (.if_icmp .eq 6, 3) := by decide +kernel
theorem dX8_judge_91 : decode cX8_judge 91 = .ok (.iload 4, 2) := by decide +kernel
theorem dX8_judge_93 : decode cX8_judge 93 = .ok (.ireturn, 1) := by decide +kernel
theorem dX8_judge_94 : decode cX8_judge 94 = .ok (.iinc 4 1, 3) := by decide +kernel
theorem dX8_judge_97 : decode cX8_judge 97 = .ok (.goto (-45), 3) := by decide +kernel
theorem dX8_judge_100 : decode cX8_judge 100 = .ok (.aload_n 2, 1) := by decide +kernel
theorem dX8_judge_101 : decode cX8_judge 101 = .ok (.getfield 218, 3) := by decide +kernel
theorem dX8_judge_104 : decode cX8_judge 104 = .ok (.getfield 143, 3) := by decide +kernel
theorem dX8_judge_107 : decode cX8_judge 107 = .ok (.aload_n 0, 1) := by decide +kernel
theorem dX8_judge_108 : decode cX8_judge 108 = .ok (.getfield 12, 3) := by decide +kernel
theorem dX8_judge_111 : decode cX8_judge 111 = .ok (.getfield 191, 3) := by decide +kernel
theorem dX8_judge_114 : decode cX8_judge 114 = .ok (.if_icmp .ne 7, 3) := by decide +kernel
theorem dX8_judge_117 : decode cX8_judge 117 = .ok (.iconst (-1), 1) := by decide +kernel
theorem dX8_judge_118 : decode cX8_judge 118 = .ok (.goto 4, 3) := by decide +kernel
theorem dX8_judge_121 : decode cX8_judge 121 = .ok (.iload_n 3, 1) := by decide +kernel
theorem dX8_judge_122 : decode cX8_judge 122 = .ok (.ireturn, 1) := by decide +kernel
theorem dX8_image_0 : decode cX8_image 0 = .ok (.aload_n 0, 1) := by decide +kernel
theorem dX8_image_1 : decode cX8_image 1 = .ok (.getfield 16, 3) := by decide +kernel
theorem dX8_image_4 : decode cX8_image 4 = .ok (.aload_n 0, 1) := by decide +kernel
theorem dX8_image_5 : decode cX8_image 5 = .ok (.getfield 12, 3) := by decide +kernel
theorem dX8_image_8 : decode cX8_image 8 = .ok (.invokevirtual 187, 3) := by decide +kernel
theorem dX8_image_11 : decode cX8_image 11 = .ok (.aload_n 0, 1) := by decide +kernel
theorem dX8_image_12 : decode cX8_image 12 = .ok (.dup, 1) := by decide +kernel
theorem dX8_image_13 : decode cX8_image 13 = .ok (.getfield 267, 3) := by decide +kernel
theorem dX8_image_16 : decode cX8_image 16 = .ok (.iconst 1, 1) := by decide +kernel
theorem dX8_image_17 : decode cX8_image 17 = .ok (.iadd, 1) := by decide +kernel
theorem dX8_image_18 : decode cX8_image 18 = .ok (.putfield 267, 3) := by decide +kernel
theorem dX8_image_21 : decode cX8_image 21 = .ok (.aload_n 0, 1) := by decide +kernel
theorem dX8_image_22 : decode cX8_image 22 = .ok (.getfield 267, 3) := by decide +kernel
theorem dX8_image_25 : decode cX8_image 25 = .ok (.ireturn, 1) := by decide +kernel
theorem dX8_restore_0 : decode cX8_restore 0 = .ok (.aload_n 0, 1) := by decide +kernel
theorem dX8_restore_1 : decode cX8_restore 1 = .ok (.getfield 267, 3) := by decide +kernel
theorem dX8_restore_4 : decode cX8_restore 4 = .ok (.ifCond .ne 10, 3) := by decide +kernel
theorem dX8_restore_7 : decode cX8_restore 7 = .ok (.aload_n 0, 1) := by decide +kernel
theorem dX8_restore_8 : decode cX8_restore 8 = .ok (.ldc 190, 2) := by decide +kernel
theorem dX8_restore_10 : decode cX8_restore 10 = .ok (.invokevirtual 59, 3) := by decide +kernel
theorem dX8_restore_13 : decode cX8_restore 13 = .ok (.ireturn, 1) := by decide +kernel
theorem dX8_restore_14 : decode cX8_restore 14 = .ok (.aload_n 0, 1) := by decide +kernel
theorem dX8_restore_15 : decode cX8_restore 15 = .ok (.getfield 12, 3) := by decide +kernel
theorem dX8_restore_18 : decode cX8_restore 18 = .ok (.aload_n 0, 1) := by decide +kernel
theorem dX8_restore_19 : decode cX8_restore 19 = .ok (.getfield 16, 3) := by decide +kernel
theorem dX8_restore_22 : decode cX8_restore 22 = .ok (.invokevirtual 187, 3) := by decide +kernel
theorem dX8_restore_25 : decode cX8_restore 25 = .ok (.aload_n 0, 1) := by decide +kernel
theorem dX8_restore_26 : decode cX8_restore 26 = .ok (.getfield 12, 3) := by decide +kernel
theorem dX8_restore_29 : decode cX8_restore 29 = .ok (.getfield 63, 3) := by decide +kernel
theorem dX8_restore_32 : decode cX8_restore 32 = .ok (.ireturn, 1) := by decide +kernel
theorem dX8_tell_0 : decode cX8_tell 0 = .ok (.aload_n 0, 1) := by decide +kernel
theorem dX8_tell_1 : decode cX8_tell 1 = .ok (.getfield 12, 3) := by decide +kernel
theorem dX8_tell_4 : decode cX8_tell 4 = .ok (.getfield 270, 3) := by decide +kernel
theorem dX8_tell_7 : decode cX8_tell 7 = .ok (.iload_n 1, 1) := by decide +kernel
theorem dX8_tell_8 : decode cX8_tell 8 = .ok (.invokevirtual 150, 3) := by decide +kernel
theorem dX8_tell_11 : decode cX8_tell 11 = .ok (.ifCond .eq 16, 3) := by decide +kernel
theorem dX8_tell_14 : decode cX8_tell 14 = .ok (.aload_n 0, 1) := by decide +kernel
theorem dX8_tell_15 : decode cX8_tell 15 = .ok (.getfield 12, 3) := by decide +kernel
theorem dX8_tell_18 : decode cX8_tell 18 = .ok (.getfield 270, 3) := by decide +kernel
theorem dX8_tell_21 : decode cX8_tell 21 = .ok (.getfield 143, 3) := by decide +kernel
theorem dX8_tell_24 : decode cX8_tell 24 = .ok (.goto 9, 3) := by decide +kernel
theorem dX8_tell_27 : decode cX8_tell 27 = .ok (.aload_n 0, 1) := by decide +kernel
theorem dX8_tell_28 : decode cX8_tell 28 = .ok (.ldc 90, 2) := by decide +kernel
theorem dX8_tell_30 : decode cX8_tell 30 = .ok (.invokevirtual 59, 3) := by decide +kernel
theorem dX8_tell_33 : decode cX8_tell 33 = .ok (.ireturn, 1) := by decide +kernel
theorem dX8_check_0 : decode cX8_check 0 = .ok (.iconst 0, 1) := by decide +kernel
theorem dX8_check_1 : decode cX8_check 1 = .ok (.istore_n 1, 1) := by decide +kernel
theorem dX8_check_2 : decode cX8_check 2 = .ok (.iconst 0, 1) := by decide +kernel
theorem dX8_check_3 : decode cX8_check 3 = .ok (.istore_n 2, 1) := by decide +kernel
theorem dX8_check_4 : decode cX8_check 4 = .ok (.iload_n 2, 1) := by decide +kernel
theorem dX8_check_5 : decode cX8_check 5 = .ok (.aload_n 0, 1) := by decide +kernel
theorem dX8_check_6 : decode cX8_check 6 = .ok (.getfield 12, 3) := by decide +kernel
theorem dX8_check_9 : decode cX8_check 9 = .ok (.getfield 270, 3) := by decide +kernel
theorem dX8_check_12 : decode cX8_check 12 = .ok (.getfield 143, 3) := by decide +kernel
theorem dX8_check_15 : decode cX8_check 15 = .ok (.if_icmp .ge 50, 3) := by decide +kernel
theorem dX8_check_18 : decode cX8_check 18 = .ok (.iload_n 1, 1) := by decide +kernel
theorem dX8_check_19 : decode cX8_check 19 = .ok (.ifCond .ne 46, 3) := by decide +kernel
theorem dX8_check_22 : decode cX8_check 22 = .ok (.aload_n 0, 1) := by decide +kernel
theorem dX8_check_23 : decode cX8_check 23 = .ok (.getfield 12, 3) := by decide +kernel
theorem dX8_check_26 : decode cX8_check 26 = .ok (.getfield 270, 3) := by decide +kernel
theorem dX8_check_29 : decode cX8_check 29 = .ok (.iload_n 2, 1) := by decide +kernel
theorem dX8_check_30 : decode cX8_check 30 = .ok (.invokevirtual 221, 3) := by decide +kernel
theorem dX8_check_33 : decode cX8_check 33 = .ok (.aload_n 0, 1) := by decide +kernel
theorem dX8_check_34 : decode cX8_check 34 = .ok (.getfield 12, 3) := by decide +kernel
theorem dX8_check_37 : decode cX8_check 37 = .ok (.aload_n 0, 1) := by decide +kernel
theorem dX8_check_38 : decode cX8_check 38 = .ok (.getfield 12, 3) := by decide +kernel
theorem dX8_check_41 : decode cX8_check 41 = .ok (.getfield 63, 3) := by decide +kernel
theorem dX8_check_44 : decode cX8_check 44 = .ok (.iload_n 2, 1) := by decide +kernel
theorem dX8_check_45 : decode cX8_check 45 = .ok (.iadd, 1) := by decide +kernel
theorem dX8_check_46 : decode cX8_check 46 = .ok (.invokevirtual 70, 3) := by decide +kernel
theorem dX8_check_49 : decode cX8_check 49 = .ok (.invokestatic 197, 3) := by decide +kernel
theorem dX8_check_52 : decode cX8_check 52 = .ok (.if_icmp .eq 7, 3) := by decide +kernel
theorem dX8_check_55 : decode cX8_check 55 = .ok (.iconst 1, 1) := by decide +kernel
theorem dX8_check_56 : decode cX8_check 56 = .ok (.iload_n 2, 1) := by decide +kernel
theorem dX8_check_57 : decode cX8_check 57 = .ok (.iadd, 1) := by decide +kernel
theorem dX8_check_58 : decode cX8_check 58 = .ok (.istore_n 1, 1) := by decide +kernel
theorem dX8_check_59 : decode cX8_check 59 = .ok (.iinc 2 1, 3) := by decide +kernel
theorem dX8_check_62 : decode cX8_check 62 = .ok (.goto (-58), 3) := by decide +kernel
theorem dX8_check_65 : decode cX8_check 65 = .ok (.aload_n 0, 1) := by decide +kernel
theorem dX8_check_66 : decode cX8_check 66 = .ok (.getfield 12, 3) := by decide +kernel
theorem dX8_check_69 : decode cX8_check 69 = .ok (.getfield 270, 3) := by decide +kernel
theorem dX8_check_72 : decode cX8_check 72 = .ok (.invokevirtual 160, 3) := by decide +kernel
theorem dX8_check_75 : decode cX8_check 75 = .ok (.iload_n 1, 1) := by decide +kernel
theorem dX8_check_76 : decode cX8_check 76 = .ok (.ireturn, 1) := by decide +kernel
theorem dX8_count_0 : decode cX8_count 0 = .ok (.iload_n 1, 1) := by decide +kernel
theorem dX8_count_1 : decode cX8_count 1 = .ok (.tableswitch 173 0 10 #[59, 67, 75, 86, 94, 106, 124, 132, 143, 154, 165], 59) := by decide +kernel
theorem dX8_count_60 : decode cX8_count 60 = .ok (.aload_n 0, 1) := by decide +kernel
theorem dX8_count_61 : decode cX8_count 61 = .ok (.getfield 12, 3) := by decide +kernel
theorem dX8_count_64 : decode cX8_count 64 = .ok (.getfield 191, 3) := by decide +kernel
theorem dX8_count_67 : decode cX8_count 67 = .ok (.ireturn, 1) := by decide +kernel
theorem dX8_count_68 : decode cX8_count 68 = .ok (.aload_n 0, 1) := by decide +kernel
theorem dX8_count_69 : decode cX8_count 69 = .ok (.getfield 12, 3) := by decide +kernel
theorem dX8_count_72 : decode cX8_count 72 = .ok (.getfield 63, 3) := by decide +kernel
theorem dX8_count_75 : decode cX8_count 75 = .ok (.ireturn, 1) := by decide +kernel
theorem dX8_count_76 : decode cX8_count 76 = .ok (.aload_n 0, 1) := by decide +kernel
theorem dX8_count_77 : decode cX8_count 77 = .ok (.getfield 12, 3) := by decide +kernel
theorem dX8_count_80 : decode cX8_count 80 = .ok (.getfield 63, 3) := by decide +kernel
theorem dX8_count_83 : decode cX8_count 83 = .ok (.bipush 16, 2) := by decide +kernel
theorem dX8_count_85 : decode cX8_count 85 = .ok (.irem, 1) := by decide +kernel
theorem dX8_count_86 : decode cX8_count 86 = .ok (.ireturn, 1) := by decide +kernel
theorem dX8_count_87 : decode cX8_count 87 = .ok (.aload_n 0, 1) := by decide +kernel
theorem dX8_count_88 : decode cX8_count 88 = .ok (.getfield 12, 3) := by decide +kernel
theorem dX8_count_91 : decode cX8_count 91 = .ok (.getfield 79, 3) := by decide +kernel
theorem dX8_count_94 : decode cX8_count 94 = .ok (.ireturn, 1) := by decide +kernel
theorem dX8_count_95 : decode cX8_count 95 = .ok (.aload_n 0, 1) := by decide +kernel
theorem dX8_count_96 : decode cX8_count 96 = .ok (.getfield 12, 3) := by decide +kernel
theorem dX8_count_99 : decode cX8_count 99 = .ok (.iconst (-1), 1) := by decide +kernel
theorem dX8_count_100 : decode cX8_count 100 = .ok (.invokevirtual 208, 3) := by decide +kernel
theorem dX8_count_103 : decode cX8_count 103 = .ok (.invokestatic 197, 3) := by decide +kernel
theorem dX8_count_106 : decode cX8_count 106 = .ok (.ireturn, 1) := by decide +kernel
theorem dX8_count_107 : decode cX8_count 107 = .ok (.aload_n 0, 1) := by decide +kernel
theorem dX8_count_108 : decode cX8_count 108 = .ok (.getfield 12, 3) := by decide +kernel
theorem dX8_count_111 : decode cX8_count 111 = .ok (.aload_n 0, 1) := by decide +kernel
theorem dX8_count_112 : decode cX8_count 112 = .ok (.getfield 12, 3) := by decide +kernel
theorem dX8_count_115 : decode cX8_count 115 = .ok (.getfield 63, 3) := by decide +kernel
theorem dX8_count_118 : decode cX8_count 118 = .ok (.invokevirtual 70, 3) := by decide +kernel
theorem dX8_count_121 : decode cX8_count 121 = .ok (.invokestatic 197, 3) := by decide +kernel
theorem dX8_count_124 : decode cX8_count 124 = .ok (.ireturn, 1) := by decide +kernel
theorem dX8_count_125 : decode cX8_count 125 = .ok (.aload_n 0, 1) := by decide +kernel
theorem dX8_count_126 : decode cX8_count 126 = .ok (.getfield 12, 3) := by decide +kernel
theorem dX8_count_129 : decode cX8_count 129 = .ok (.invokevirtual 135, 3) := by decide +kernel
theorem dX8_count_132 : decode cX8_count 132 = .ok (.ireturn, 1) := by decide +kernel
theorem dX8_count_133 : decode cX8_count 133 = .ok (.aload_n 0, 1) := by decide +kernel
theorem dX8_count_134 : decode cX8_count 134 = .ok (.getfield 12, 3) := by decide +kernel
theorem dX8_count_137 : decode cX8_count 137 = .ok (.getfield 139, 3) := by decide +kernel
theorem dX8_count_140 : decode cX8_count 140 = .ok (.getfield 143, 3) := by decide +kernel
theorem dX8_count_143 : decode cX8_count 143 = .ok (.ireturn, 1) := by decide +kernel
theorem dX8_count_144 : decode cX8_count 144 = .ok (.aload_n 0, 1) := by decide +kernel
theorem dX8_count_145 : decode cX8_count 145 = .ok (.getfield 12, 3) := by decide +kernel
theorem dX8_count_148 : decode cX8_count 148 = .ok (.getfield 270, 3) := by decide +kernel
theorem dX8_count_151 : decode cX8_count 151 = .ok (.getfield 143, 3) := by decide +kernel
theorem dX8_count_154 : decode cX8_count 154 = .ok (.ireturn, 1) := by decide +kernel
theorem dX8_count_155 : decode cX8_count 155 = .ok (.aload_n 0, 1) := by decide +kernel
theorem dX8_count_156 : decode cX8_count 156 = .ok (.getfield 32, 3) := by decide +kernel
theorem dX8_count_159 : decode cX8_count 159 = .ok (.getfield 242, 3) := by decide +kernel
theorem dX8_count_162 : decode cX8_count 162 = .ok (.getfield 143, 3) := by decide +kernel
theorem dX8_count_165 : decode cX8_count 165 = .ok (.ireturn, 1) := by decide +kernel
theorem dX8_count_166 : decode cX8_count 166 = .ok (.aload_n 0, 1) := by decide +kernel
theorem dX8_count_167 : decode cX8_count 167 = .ok (.getfield 12, 3) := by decide +kernel
theorem dX8_count_170 : decode cX8_count 170 = .ok (.getfield 235, 3) := by decide +kernel
theorem dX8_count_173 : decode cX8_count 173 = .ok (.ireturn, 1) := by decide +kernel
theorem dX8_count_174 : decode cX8_count 174 = .ok (.aload_n 0, 1) := by decide +kernel
theorem dX8_count_175 : decode cX8_count 175 = .ok (.ldc 58, 2) := by decide +kernel
theorem dX8_count_177 : decode cX8_count 177 = .ok (.invokevirtual 59, 3) := by decide +kernel
theorem dX8_count_180 : decode cX8_count 180 = .ok (.ireturn, 1) := by decide +kernel
theorem dX8_told_0 : decode cX8_told 0 = .ok (.iload_n 1, 1) := by decide +kernel
theorem dX8_told_1 : decode cX8_told 1 = .ok (.iconst 1, 1) := by decide +kernel
theorem dX8_told_2 : decode cX8_told 2 = .ok (.aload_n 0, 1) := by decide +kernel
theorem dX8_told_3 : decode cX8_told 3 = .ok (.getfield 49, 3) := by decide +kernel
theorem dX8_told_6 : decode cX8_told 6 = .ok (.arraylength, 1) := by decide +kernel
theorem dX8_told_7 : decode cX8_told 7 = .ok (.iconst 1, 1) := by decide +kernel
theorem dX8_told_8 : decode cX8_told 8 = .ok (.isub, 1) := by decide +kernel
theorem dX8_told_9 : decode cX8_told 9 = .ok (.invokestatic 54, 3) := by decide +kernel
theorem dX8_told_12 : decode cX8_told 12 = .ok (.ifCond .eq 10, 3) := by decide +kernel
theorem dX8_told_15 : decode cX8_told 15 = .ok (.aload_n 0, 1) := by decide +kernel
theorem dX8_told_16 : decode cX8_told 16 = .ok (.ldc 58, 2) := by decide +kernel
theorem dX8_told_18 : decode cX8_told 18 = .ok (.invokevirtual 59, 3) := by decide +kernel
theorem dX8_told_21 : decode cX8_told 21 = .ok (.ireturn, 1) := by decide +kernel
theorem dX8_told_22 : decode cX8_told 22 = .ok (.aload_n 0, 1) := by decide +kernel
theorem dX8_told_23 : decode cX8_told 23 = .ok (.getfield 49, 3) := by decide +kernel
theorem dX8_told_26 : decode cX8_told 26 = .ok (.iload_n 1, 1) := by decide +kernel
theorem dX8_told_27 : decode cX8_told 27 = .ok (.iaload, 1) := by decide +kernel
theorem dX8_told_28 : decode cX8_told 28 = .ok (.ireturn, 1) := by decide +kernel
theorem dX8_fail_0 : decode cX8_fail 0 = .ok (.ldc_w 273, 3) := by decide +kernel
theorem dX8_fail_3 : decode cX8_fail 3 = .ok (.iload_n 1, 1) := by decide +kernel
theorem dX8_fail_4 : decode cX8_fail 4 = .ok (.isub, 1) := by decide +kernel
theorem dX8_fail_5 : decode cX8_fail 5 = .ok (.istore_n 2, 1) := by decide +kernel
theorem dX8_fail_6 : decode cX8_fail 6 = .ok (.iload_n 2, 1) := by decide +kernel
theorem dX8_fail_7 : decode cX8_fail 7 = .ok (.ifCond .lt 22, 3) := by decide +kernel
theorem dX8_fail_10 : decode cX8_fail 10 = .ok (.iload_n 2, 1) := by decide +kernel
theorem dX8_fail_11 : decode cX8_fail 11 = .ok (.aload_n 0, 1) := by decide +kernel
theorem dX8_fail_12 : decode cX8_fail 12 = .ok (.getfield 49, 3) := by decide +kernel
theorem dX8_fail_15 : decode cX8_fail 15 = .ok (.arraylength, 1) := by decide +kernel
theorem dX8_fail_16 : decode cX8_fail 16 = .ok (.if_icmp .ge 13, 3) := by decide +kernel
theorem dX8_fail_19 : decode cX8_fail 19 = .ok (.aload_n 0, 1) := by decide +kernel
theorem dX8_fail_20 : decode cX8_fail 20 = .ok (.getfield 49, 3) := by decide +kernel
theorem dX8_fail_23 : decode cX8_fail 23 = .ok (.iload_n 2, 1) := by decide +kernel
theorem dX8_fail_24 : decode cX8_fail 24 = .ok (.dup2, 1) := by decide +kernel
theorem dX8_fail_25 : decode cX8_fail 25 = .ok (.iaload, 1) := by decide +kernel
theorem dX8_fail_26 : decode cX8_fail 26 = .ok (.iconst 1, 1) := by decide +kernel
theorem dX8_fail_27 : decode cX8_fail 27 = .ok (.iadd, 1) := by decide +kernel
theorem dX8_fail_28 : decode cX8_fail 28 = .ok (.iastore, 1) := by decide +kernel
theorem dX8_fail_29 : decode cX8_fail 29 = .ok (.iload_n 1, 1) := by decide +kernel
theorem dX8_fail_30 : decode cX8_fail 30 = .ok (.ireturn, 1) := by decide +kernel
theorem dX8_findSheet_0 : decode cX8_findSheet 0 = .ok (.iload_n 1, 1) := by decide +kernel
theorem dX8_findSheet_1 : decode cX8_findSheet 1 = .ok (.ifCond .lt 12, 3) := by decide +kernel
theorem dX8_findSheet_4 : decode cX8_findSheet 4 = .ok (.iload_n 1, 1) := by decide +kernel
theorem dX8_findSheet_5 : decode cX8_findSheet 5 = .ok (.aload_n 0, 1) := by decide +kernel
theorem dX8_findSheet_6 : decode cX8_findSheet 6 = .ok (.getfield 45, 3) := by decide +kernel
theorem dX8_findSheet_9 : decode cX8_findSheet 9 = .ok (.arraylength, 1) := by decide +kernel
theorem dX8_findSheet_10 : decode cX8_findSheet 10 = .ok (.if_icmp .lt 7, 3) := by decide +kernel
theorem dX8_findSheet_13 : decode cX8_findSheet 13 = .ok (.aconst_null, 1) := by decide +kernel
theorem dX8_findSheet_14 : decode cX8_findSheet 14 = .ok (.goto 9, 3) := by decide +kernel
theorem dX8_findSheet_17 : decode cX8_findSheet 17 = .ok (.aload_n 0, 1) := by decide +kernel
theorem dX8_findSheet_18 : decode cX8_findSheet 18 = .ok (.getfield 45, 3) := by decide +kernel
theorem dX8_findSheet_21 : decode cX8_findSheet 21 = .ok (.iload_n 1, 1) := by decide +kernel
theorem dX8_findSheet_22 : decode cX8_findSheet 22 = .ok (.aaload, 1) := by decide +kernel
theorem dX8_findSheet_23 : decode cX8_findSheet 23 = .ok (.areturn, 1) := by decide +kernel
theorem dX8_isOutside_0 : decode cX8_isOutside 0 = .ok (.iload_n 0, 1) := by decide +kernel
theorem dX8_isOutside_1 : decode cX8_isOutside 1 = .ok (.iload_n 1, 1) := by decide +kernel
theorem dX8_isOutside_2 : decode cX8_isOutside 2 = .ok (.if_icmp .lt 8, 3) := by decide +kernel
theorem dX8_isOutside_5 : decode cX8_isOutside 5 = .ok (.iload_n 0, 1) := by decide +kernel
theorem dX8_isOutside_6 : decode cX8_isOutside 6 = .ok (.iload_n 2, 1) := by decide +kernel
theorem dX8_isOutside_7 : decode cX8_isOutside 7 = .ok (.if_icmp .le 7, 3) := by decide +kernel
theorem dX8_isOutside_10 : decode cX8_isOutside 10 = .ok (.iconst 1, 1) := by decide +kernel
theorem dX8_isOutside_11 : decode cX8_isOutside 11 = .ok (.goto 4, 3) := by decide +kernel
theorem dX8_isOutside_14 : decode cX8_isOutside 14 = .ok (.iconst 0, 1) := by decide +kernel
theorem dX8_isOutside_15 : decode cX8_isOutside 15 = .ok (.ireturn, 1) := by decide +kernel
theorem dX8_isNoKind_0 : decode cX8_isNoKind 0 = .ok (.iload_n 0, 1) := by decide +kernel
theorem dX8_isNoKind_1 : decode cX8_isNoKind 1 = .ok (.ifCond .lt 14, 3) := by decide +kernel
theorem dX8_isNoKind_4 : decode cX8_isNoKind 4 = .ok (.iload_n 0, 1) := by decide +kernel
theorem dX8_isNoKind_5 : decode cX8_isNoKind 5 = .ok (.bipush 10, 2) := by decide +kernel
theorem dX8_isNoKind_7 : decode cX8_isNoKind 7 = .ok (.getstatic 123, 3) := by decide +kernel
theorem dX8_isNoKind_10 : decode cX8_isNoKind 10 = .ok (.arraylength, 1) := by decide +kernel
theorem dX8_isNoKind_11 : decode cX8_isNoKind 11 = .ok (.imul, 1) := by decide +kernel
theorem dX8_isNoKind_12 : decode cX8_isNoKind 12 = .ok (.if_icmp .lt 7, 3) := by decide +kernel
theorem dX8_isNoKind_15 : decode cX8_isNoKind 15 = .ok (.iconst 1, 1) := by decide +kernel
theorem dX8_isNoKind_16 : decode cX8_isNoKind 16 = .ok (.goto 4, 3) := by decide +kernel
theorem dX8_isNoKind_19 : decode cX8_isNoKind 19 = .ok (.iconst 0, 1) := by decide +kernel
theorem dX8_isNoKind_20 : decode cX8_isNoKind 20 = .ok (.ireturn, 1) := by decide +kernel
theorem dX8_isNoUse_0 : decode cX8_isNoUse 0 = .ok (.iload_n 0, 1) := by decide +kernel
theorem dX8_isNoUse_1 : decode cX8_isNoUse 1 = .ok (.ifCond .eq 12, 3) := by decide +kernel
theorem dX8_isNoUse_4 : decode cX8_isNoUse 4 = .ok (.iload_n 0, 1) := by decide +kernel
theorem dX8_isNoUse_5 : decode cX8_isNoUse 5 = .ok (.iconst 1, 1) := by decide +kernel
theorem dX8_isNoUse_6 : decode cX8_isNoUse 6 = .ok (.if_icmp .eq 7, 3) := by decide +kernel
theorem dX8_isNoUse_9 : decode cX8_isNoUse 9 = .ok (.iconst 1, 1) := by decide +kernel
theorem dX8_isNoUse_10 : decode cX8_isNoUse 10 = .ok (.goto 4, 3) := by decide +kernel
theorem dX8_isNoUse_13 : decode cX8_isNoUse 13 = .ok (.iconst 0, 1) := by decide +kernel
theorem dX8_isNoUse_14 : decode cX8_isNoUse 14 = .ok (.ireturn, 1) := by decide +kernel
theorem dX8_isNoSet_0 : decode cX8_isNoSet 0 = .ok (.iload_n 0, 1) := by decide +kernel
theorem dX8_isNoSet_1 : decode cX8_isNoSet 1 = .ok (.ifCond .lt 9, 3) := by decide +kernel
theorem dX8_isNoSet_4 : decode cX8_isNoSet 4 = .ok (.iload_n 0, 1) := by decide +kernel
theorem dX8_isNoSet_5 : decode cX8_isNoSet 5 = .ok (.ldc 234, 2) := by decide +kernel
theorem dX8_isNoSet_7 : decode cX8_isNoSet 7 = .ok (.if_icmp .le 7, 3) := by decide +kernel
theorem dX8_isNoSet_10 : decode cX8_isNoSet 10 = .ok (.iconst 1, 1) := by decide +kernel
theorem dX8_isNoSet_11 : decode cX8_isNoSet 11 = .ok (.goto 4, 3) := by decide +kernel
theorem dX8_isNoSet_14 : decode cX8_isNoSet 14 = .ok (.iconst 0, 1) := by decide +kernel
theorem dX8_isNoSet_15 : decode cX8_isNoSet 15 = .ok (.ireturn, 1) := by decide +kernel
theorem dX8_isUnder_0 : decode cX8_isUnder 0 = .ok (.iload_n 0, 1) := by decide +kernel
theorem dX8_isUnder_1 : decode cX8_isUnder 1 = .ok (.istore_n 2, 1) := by decide +kernel
theorem dX8_isUnder_2 : decode cX8_isUnder 2 = .ok (.iconst 0, 1) := by decide +kernel
theorem dX8_isUnder_3 : decode cX8_isUnder 3 = .ok (.istore_n 3, 1) := by decide +kernel
theorem dX8_isUnder_4 : decode cX8_isUnder 4 = .ok (.iload_n 3, 1) := by decide +kernel
theorem dX8_isUnder_5 : decode cX8_isUnder 5 = .ok (.getstatic 123, 3) := by decide +kernel
theorem dX8_isUnder_8 : decode cX8_isUnder 8 = .ok (.arraylength, 1) := by decide +kernel
theorem dX8_isUnder_9 : decode cX8_isUnder 9 = .ok (.if_icmp .ge 34, 3) := by decide +kernel
theorem dX8_isUnder_12 : decode cX8_isUnder 12 = .ok (.iload_n 2, 1) := by decide +kernel
theorem dX8_isUnder_13 : decode cX8_isUnder 13 = .ok (.ifCond .lt 30, 3) := by decide +kernel
theorem dX8_isUnder_16 : decode cX8_isUnder 16 = .ok (.iload_n 2, 1) := by decide +kernel
theorem dX8_isUnder_17 : decode cX8_isUnder 17 = .ok (.getstatic 123, 3) := by decide +kernel
theorem dX8_isUnder_20 : decode cX8_isUnder 20 = .ok (.arraylength, 1) := by decide +kernel
theorem dX8_isUnder_21 : decode cX8_isUnder 21 = .ok (.if_icmp .ge 22, 3) := by decide +kernel
theorem dX8_isUnder_24 : decode cX8_isUnder 24 = .ok (.iload_n 2, 1) := by decide +kernel
theorem dX8_isUnder_25 : decode cX8_isUnder 25 = .ok (.iload_n 1, 1) := by decide +kernel
theorem dX8_isUnder_26 : decode cX8_isUnder 26 = .ok (.if_icmp .ne 5, 3) := by decide +kernel
theorem dX8_isUnder_29 : decode cX8_isUnder 29 = .ok (.iconst 1, 1) := by decide +kernel
theorem dX8_isUnder_30 : decode cX8_isUnder 30 = .ok (.ireturn, 1) := by decide +kernel
theorem dX8_isUnder_31 : decode cX8_isUnder 31 = .ok (.getstatic 123, 3) := by decide +kernel
theorem dX8_isUnder_34 : decode cX8_isUnder 34 = .ok (.iload_n 2, 1) := by decide +kernel
theorem dX8_isUnder_35 : decode cX8_isUnder 35 = .ok (.iaload, 1) := by decide +kernel
theorem dX8_isUnder_36 : decode cX8_isUnder 36 = .ok (.istore_n 2, 1) := by decide +kernel
theorem dX8_isUnder_37 : decode cX8_isUnder 37 = .ok (.iinc 3 1, 3) := by decide +kernel
theorem dX8_isUnder_40 : decode cX8_isUnder 40 = .ok (.goto (-36), 3) := by decide +kernel
theorem dX8_isUnder_43 : decode cX8_isUnder 43 = .ok (.iconst 0, 1) := by decide +kernel
theorem dX8_isUnder_44 : decode cX8_isUnder 44 = .ok (.ireturn, 1) := by decide +kernel
theorem dX8_litBy_0 : decode cX8_litBy 0 = .ok (.iload_n 0, 1) := by decide +kernel
theorem dX8_litBy_1 : decode cX8_litBy 1 = .ok (.bipush 8, 2) := by decide +kernel
theorem dX8_litBy_3 : decode cX8_litBy 3 = .ok (.if_icmp .gt 18, 3) := by decide +kernel
theorem dX8_litBy_6 : decode cX8_litBy 6 = .ok (.sipush 255, 3) := by decide +kernel
theorem dX8_litBy_9 : decode cX8_litBy 9 = .ok (.bipush 8, 2) := by decide +kernel
theorem dX8_litBy_11 : decode cX8_litBy 11 = .ok (.iload_n 0, 1) := by decide +kernel
theorem dX8_litBy_12 : decode cX8_litBy 12 = .ok (.isub, 1) := by decide +kernel
theorem dX8_litBy_13 : decode cX8_litBy 13 = .ok (.ishl, 1) := by decide +kernel
theorem dX8_litBy_14 : decode cX8_litBy 14 = .ok (.sipush 255, 3) := by decide +kernel
theorem dX8_litBy_17 : decode cX8_litBy 17 = .ok (.iand, 1) := by decide +kernel
theorem dX8_litBy_18 : decode cX8_litBy 18 = .ok (.goto 11, 3) := by decide +kernel
theorem dX8_litBy_21 : decode cX8_litBy 21 = .ok (.sipush 255, 3) := by decide +kernel
theorem dX8_litBy_24 : decode cX8_litBy 24 = .ok (.iload_n 0, 1) := by decide +kernel
theorem dX8_litBy_25 : decode cX8_litBy 25 = .ok (.bipush 8, 2) := by decide +kernel
theorem dX8_litBy_27 : decode cX8_litBy 27 = .ok (.isub, 1) := by decide +kernel
theorem dX8_litBy_28 : decode cX8_litBy 28 = .ok (.ishr, 1) := by decide +kernel
theorem dX8_litBy_29 : decode cX8_litBy 29 = .ok (.istore_n 1, 1) := by decide +kernel
theorem dX8_litBy_30 : decode cX8_litBy 30 = .ok (.iload_n 1, 1) := by decide +kernel
theorem dX8_litBy_31 : decode cX8_litBy 31 = .ok (.ldc_w 274, 3) := by decide +kernel
theorem dX8_litBy_34 : decode cX8_litBy 34 = .ok (.imul, 1) := by decide +kernel
theorem dX8_litBy_35 : decode cX8_litBy 35 = .ok (.ireturn, 1) := by decide +kernel
theorem dX8_besideCells_0 : decode cX8_besideCells 0 = .ok (.iload_n 0, 1) := by decide +kernel
theorem dX8_besideCells_1 : decode cX8_besideCells 1 = .ok (.bipush 8, 2) := by decide +kernel
theorem dX8_besideCells_3 : decode cX8_besideCells 3 = .ok (.ishr, 1) := by decide +kernel
theorem dX8_besideCells_4 : decode cX8_besideCells 4 = .ok (.iload_n 0, 1) := by decide +kernel
theorem dX8_besideCells_5 : decode cX8_besideCells 5 = .ok (.bipush 8, 2) := by decide +kernel
theorem dX8_besideCells_7 : decode cX8_besideCells 7 = .ok (.ishl, 1) := by decide +kernel
theorem dX8_besideCells_8 : decode cX8_besideCells 8 = .ok (.ldc 234, 2) := by decide +kernel
theorem dX8_besideCells_10 : decode cX8_besideCells 10 = .ok (.iand, 1) := by decide +kernel
theorem dX8_besideCells_11 : decode cX8_besideCells 11 = .ok (.ior, 1) := by decide +kernel
theorem dX8_besideCells_12 : decode cX8_besideCells 12 = .ok (.istore_n 1, 1) := by decide +kernel
theorem dX8_besideCells_13 : decode cX8_besideCells 13 = .ok (.iload_n 0, 1) := by decide +kernel
theorem dX8_besideCells_14 : decode cX8_besideCells 14 = .ok (.ldc_w 275, 3) := by decide +kernel
theorem dX8_besideCells_17 : decode cX8_besideCells 17 = .ok (.iand, 1) := by decide +kernel
theorem dX8_besideCells_18 : decode cX8_besideCells 18 = .ok (.iconst 1, 1) := by decide +kernel
theorem dX8_besideCells_19 : decode cX8_besideCells 19 = .ok (.ishl, 1) := by decide +kernel
theorem dX8_besideCells_20 : decode cX8_besideCells 20 = .ok (.iload_n 0, 1) := by decide +kernel
theorem dX8_besideCells_21 : decode cX8_besideCells 21 = .ok (.ldc_w 276, 3) := by decide +kernel
theorem dX8_besideCells_24 : decode cX8_besideCells 24 = .ok (.iand, 1) := by decide +kernel
theorem dX8_besideCells_25 : decode cX8_besideCells 25 = .ok (.iconst 1, 1) := by decide +kernel
theorem dX8_besideCells_26 : decode cX8_besideCells 26 = .ok (.ishr, 1) := by decide +kernel
theorem dX8_besideCells_27 : decode cX8_besideCells 27 = .ok (.ior, 1) := by decide +kernel
theorem dX8_besideCells_28 : decode cX8_besideCells 28 = .ok (.istore_n 2, 1) := by decide +kernel
theorem dX8_besideCells_29 : decode cX8_besideCells 29 = .ok (.iload_n 1, 1) := by decide +kernel
theorem dX8_besideCells_30 : decode cX8_besideCells 30 = .ok (.iload_n 2, 1) := by decide +kernel
theorem dX8_besideCells_31 : decode cX8_besideCells 31 = .ok (.ior, 1) := by decide +kernel
theorem dX8_besideCells_32 : decode cX8_besideCells 32 = .ok (.ireturn, 1) := by decide +kernel
end
section
theorem dX9_init_0 : decode cX9_init 0 = .ok (.aload_n 0, 1) := by decide +kernel
theorem dX9_init_1 : decode cX9_init 1 = .ok (.invokespecial 3, 3) := by decide +kernel
theorem dX9_init_4 : decode cX9_init 4 = .ok (.aload_n 0, 1) := by decide +kernel
theorem dX9_init_5 : decode cX9_init 5 = .ok (.sipush 210, 3) := by decide +kernel
theorem dX9_init_8 : decode cX9_init 8 = .ok (.newarray .int, 2) := by decide +kernel
theorem dX9_init_10 : decode cX9_init 10 = .ok (.putfield 9, 3) := by decide +kernel
theorem dX9_init_13 : decode cX9_init 13 = .ok (.aload_n 0, 1) := by decide +kernel
theorem dX9_init_14 : decode cX9_init 14 = .ok (.sipush 210, 3) := by decide +kernel
theorem dX9_init_17 : decode cX9_init 17 = .ok (.newarray .int, 2) := by decide +kernel
theorem dX9_init_19 : decode cX9_init 19 = .ok (.putfield 13, 3) := by decide +kernel
theorem dX9_init_22 : decode cX9_init 22 = .ok (.aload_n 0, 1) := by decide +kernel
theorem dX9_init_23 : decode cX9_init 23 = .ok (.sipush 210, 3) := by decide +kernel
theorem dX9_init_26 : decode cX9_init 26 = .ok (.newarray .int, 2) := by decide +kernel
theorem dX9_init_28 : decode cX9_init 28 = .ok (.putfield 16, 3) := by decide +kernel
theorem dX9_init_31 : decode cX9_init 31 = .ok (.aload_n 0, 1) := by decide +kernel
theorem dX9_init_32 : decode cX9_init 32 = .ok (.bipush 6, 2) := by decide +kernel
theorem dX9_init_34 : decode cX9_init 34 = .ok (.newarray .int, 2) := by decide +kernel
theorem dX9_init_36 : decode cX9_init 36 = .ok (.putfield 19, 3) := by decide +kernel
theorem dX9_init_39 : decode cX9_init 39 = .ok (.aload_n 0, 1) := by decide +kernel
theorem dX9_init_40 : decode cX9_init 40 = .ok (.iconst 2, 1) := by decide +kernel
theorem dX9_init_41 : decode cX9_init 41 = .ok (.anewarray 22, 3) := by decide +kernel
theorem dX9_init_44 : decode cX9_init 44 = .ok (.dup, 1) := by decide +kernel
theorem dX9_init_45 : decode cX9_init 45 = .ok (.iconst 0, 1) := by decide +kernel
theorem dX9_init_46 : decode cX9_init 46 = .ok (.ldc 24, 2) := by decide +kernel
theorem dX9_init_48 : decode cX9_init 48 = .ok (.aastore, 1) := by decide +kernel
theorem dX9_init_49 : decode cX9_init 49 = .ok (.dup, 1) := by decide +kernel
theorem dX9_init_50 : decode cX9_init 50 = .ok (.iconst 1, 1) := by decide +kernel
theorem dX9_init_51 : decode cX9_init 51 = .ok (.ldc 26, 2) := by decide +kernel
theorem dX9_init_53 : decode cX9_init 53 = .ok (.aastore, 1) := by decide +kernel
theorem dX9_init_54 : decode cX9_init 54 = .ok (.putfield 28, 3) := by decide +kernel
theorem dX9_init_57 : decode cX9_init 57 = .ok (.aload_n 0, 1) := by decide +kernel
theorem dX9_init_58 : decode cX9_init 58 = .ok (.bipush 60, 2) := by decide +kernel
theorem dX9_init_60 : decode cX9_init 60 = .ok (.newarray .int, 2) := by decide +kernel
theorem dX9_init_62 : decode cX9_init 62 = .ok (.putfield 32, 3) := by decide +kernel
theorem dX9_init_65 : decode cX9_init 65 = .ok (.aload_n 0, 1) := by decide +kernel
theorem dX9_init_66 : decode cX9_init 66 = .ok (.iconst 4, 1) := by decide +kernel
theorem dX9_init_67 : decode cX9_init 67 = .ok (.newarray .int, 2) := by decide +kernel
theorem dX9_init_69 : decode cX9_init 69 = .ok (.putfield 35, 3) := by decide +kernel
theorem dX9_init_72 : decode cX9_init 72 = .ok (.aload_n 0, 1) := by decide +kernel
theorem dX9_init_73 : decode cX9_init 73 = .ok (.bipush 60, 2) := by decide +kernel
theorem dX9_init_75 : decode cX9_init 75 = .ok (.newarray .int, 2) := by decide +kernel
theorem dX9_init_77 : decode cX9_init 77 = .ok (.putfield 38, 3) := by decide +kernel
theorem dX9_init_80 : decode cX9_init 80 = .ok (.aload_n 0, 1) := by decide +kernel
theorem dX9_init_81 : decode cX9_init 81 = .ok (.bipush 6, 2) := by decide +kernel
theorem dX9_init_83 : decode cX9_init 83 = .ok (.newarray .int, 2) := by decide +kernel
theorem dX9_init_85 : decode cX9_init 85 = .ok (.putfield 41, 3) := by decide +kernel
theorem dX9_init_88 : decode cX9_init 88 = .ok (.aload_n 0, 1) := by decide +kernel
theorem dX9_init_89 : decode cX9_init 89 = .ok (.bipush 24, 2) := by decide +kernel
theorem dX9_init_91 : decode cX9_init 91 = .ok (.newarray .int, 2) := by decide +kernel
theorem dX9_init_93 : decode cX9_init 93 = .ok (.putfield 44, 3) := by decide +kernel
theorem dX9_init_96 : decode cX9_init 96 = .ok (.aload_n 0, 1) := by decide +kernel
theorem dX9_init_97 : decode cX9_init 97 = .ok (.bipush 40, 2) := by decide +kernel
theorem dX9_init_99 : decode cX9_init 99 = .ok (.newarray .int, 2) := by decide +kernel
theorem dX9_init_101 : decode cX9_init 101 = .ok (.putfield 47, 3) := by decide +kernel
theorem dX9_init_104 : decode cX9_init 104 = .ok (.aload_n 0, 1) := by decide +kernel
theorem dX9_init_105 : decode cX9_init 105 = .ok (.iconst 4, 1) := by decide +kernel
theorem dX9_init_106 : decode cX9_init 106 = .ok (.newarray .int, 2) := by decide +kernel
theorem dX9_init_108 : decode cX9_init 108 = .ok (.putfield 50, 3) := by decide +kernel
theorem dX9_init_111 : decode cX9_init 111 = .ok (.aload_n 0, 1) := by decide +kernel
theorem dX9_init_112 : decode cX9_init 112 = .ok (.iconst 4, 1) := by decide +kernel
theorem dX9_init_113 : decode cX9_init 113 = .ok (.newarray .int, 2) := by decide +kernel
theorem dX9_init_115 : decode cX9_init 115 = .ok (.putfield 53, 3) := by decide +kernel
theorem dX9_init_118 : decode cX9_init 118 = .ok (.aload_n 0, 1) := by decide +kernel
theorem dX9_init_119 : decode cX9_init 119 = .ok (.sipush 160, 3) := by decide +kernel
theorem dX9_init_122 : decode cX9_init 122 = .ok (.newarray .int, 2) := by decide +kernel
theorem dX9_init_124 : decode cX9_init 124 = .ok (.putfield 56, 3) := by decide +kernel
theorem dX9_init_127 : decode cX9_init 127 = .ok (.aload_n 0, 1) := by decide +kernel
theorem dX9_init_128 : decode cX9_init 128 = .ok (.bipush 40, 2) := by decide +kernel
theorem dX9_init_130 : decode cX9_init 130 = .ok (.newarray .int, 2) := by decide +kernel
theorem dX9_init_132 : decode cX9_init 132 = .ok (.putfield 59, 3) := by decide +kernel
theorem dX9_init_135 : decode cX9_init 135 = .ok (.aload_n 0, 1) := by decide +kernel
theorem dX9_init_136 : decode cX9_init 136 = .ok (.getfield 9, 3) := by decide +kernel
theorem dX9_init_139 : decode cX9_init 139 = .ok (.iconst 5, 1) := by decide +kernel
theorem dX9_init_140 : decode cX9_init 140 = .ok (.iconst 1, 1) := by decide +kernel
theorem dX9_init_141 : decode cX9_init 141 = .ok (.iastore, 1) := by decide +kernel
theorem dX9_init_142 : decode cX9_init 142 = .ok (.return_, 1) := by decide +kernel
theorem dX9_finding_0 : decode cX9_finding 0 = .ok (.aload_n 0, 1) := by decide +kernel
theorem dX9_finding_1 : decode cX9_finding 1 = .ok (.getfield 19, 3) := by decide +kernel
theorem dX9_finding_4 : decode cX9_finding 4 = .ok (.ldc 62, 2) := by decide +kernel
theorem dX9_finding_6 : decode cX9_finding 6 = .ok (.iload_n 1, 1) := by decide +kernel
theorem dX9_finding_7 : decode cX9_finding 7 = .ok (.isub, 1) := by decide +kernel
theorem dX9_finding_8 : decode cX9_finding 8 = .ok (.dup2, 1) := by decide +kernel
theorem dX9_finding_9 : decode cX9_finding 9 = .ok (.iaload, 1) := by decide +kernel
theorem dX9_finding_10 : decode cX9_finding 10 = .ok (.iconst 1, 1) := by decide +kernel
theorem dX9_finding_11 : decode cX9_finding 11 = .ok (.iadd, 1) := by decide +kernel
theorem dX9_finding_12 : decode cX9_finding 12 = .ok (.iastore, 1) := by decide +kernel
theorem dX9_finding_13 : decode cX9_finding 13 = .ok (.iload_n 1, 1) := by decide +kernel
theorem dX9_finding_14 : decode cX9_finding 14 = .ok (.ireturn, 1) := by decide +kernel
theorem dX9_within_0 : decode cX9_within 0 = .ok (.iload_n 0, 1) := by decide +kernel
theorem dX9_within_1 : decode cX9_within 1 = .ok (.iload_n 1, 1) := by decide +kernel
theorem dX9_within_2 : decode cX9_within 2 = .ok (.if_icmp .lt 12, 3) := by decide +kernel
theorem dX9_within_5 : decode cX9_within 5 = .ok (.iload_n 0, 1) := by decide +kernel
theorem dX9_within_6 : decode cX9_within 6 = .ok (.iload_n 2, 1) := by decide +kernel
theorem dX9_within_7 : decode cX9_within 7 = .ok (.if_icmp .gt 7, 3) := by decide +kernel
theorem dX9_within_10 : decode cX9_within 10 = .ok (.iconst 1, 1) := by decide +kernel
theorem dX9_within_11 : decode cX9_within 11 = .ok (.goto 4, 3) := by decide +kernel
theorem dX9_within_14 : decode cX9_within 14 = .ok (.iconst 0, 1) := by decide +kernel
theorem dX9_within_15 : decode cX9_within 15 = .ok (.ireturn, 1) := by decide +kernel
theorem dX9_hasBit_0 : decode cX9_hasBit 0 = .ok (.iload_n 0, 1) := by decide +kernel
theorem dX9_hasBit_1 : decode cX9_hasBit 1 = .ok (.iload_n 1, 1) := by decide +kernel
theorem dX9_hasBit_2 : decode cX9_hasBit 2 = .ok (.ishr, 1) := by decide +kernel
theorem dX9_hasBit_3 : decode cX9_hasBit 3 = .ok (.iconst 1, 1) := by decide +kernel
theorem dX9_hasBit_4 : decode cX9_hasBit 4 = .ok (.iand, 1) := by decide +kernel
theorem dX9_hasBit_5 : decode cX9_hasBit 5 = .ok (.iconst 1, 1) := by decide +kernel
theorem dX9_hasBit_6 : decode cX9_hasBit 6 = .ok (.if_icmp .ne 7, 3) := by decide +kernel
theorem dX9_hasBit_9 : decode cX9_hasBit 9 = .ok (.iconst 1, 1) := by decide +kernel
theorem dX9_hasBit_10 : decode cX9_hasBit 10 = .ok (.goto 4, 3) := by decide +kernel
theorem dX9_hasBit_13 : decode cX9_hasBit 13 = .ok (.iconst 0, 1) := by decide +kernel
theorem dX9_hasBit_14 : decode cX9_hasBit 14 = .ok (.ireturn, 1) := by decide +kernel
theorem dX9_bits_0 : decode cX9_bits 0 = .ok (.iconst 0, 1) := by decide +kernel
theorem dX9_bits_1 : decode cX9_bits 1 = .ok (.istore_n 1, 1) := by decide +kernel
theorem dX9_bits_2 : decode cX9_bits 2 = .ok (.iload_n 0, 1) := by decide +kernel
theorem dX9_bits_3 : decode cX9_bits 3 = .ok (.istore_n 2, 1) := by decide +kernel
theorem dX9_bits_4 : decode cX9_bits 4 = .ok (.iload_n 2, 1) := by decide +kernel
theorem dX9_bits_5 : decode cX9_bits 5 = .ok (.ifCond .eq 15, 3) := by decide +kernel
theorem dX9_bits_8 : decode cX9_bits 8 = .ok (.iinc 1 1, 3) := by decide +kernel
theorem dX9_bits_11 : decode cX9_bits 11 = .ok (.iload_n 2, 1) := by decide +kernel
theorem dX9_bits_12 : decode cX9_bits 12 = .ok (.iload_n 2, 1) := by decide +kernel
theorem dX9_bits_13 : decode cX9_bits 13 = .ok (.iconst 1, 1) := by decide +kernel
theorem dX9_bits_14 : decode cX9_bits 14 = .ok (.isub, 1) := by decide +kernel
theorem dX9_bits_15 : decode cX9_bits 15 = .ok (.iand, 1) := by decide +kernel
theorem dX9_bits_16 : decode cX9_bits 16 = .ok (.istore_n 2, 1) := by decide +kernel
theorem dX9_bits_17 : decode cX9_bits 17 = .ok (.goto (-13), 3) := by decide +kernel
theorem dX9_bits_20 : decode cX9_bits 20 = .ok (.iload_n 1, 1) := by decide +kernel
theorem dX9_bits_21 : decode cX9_bits 21 = .ok (.ireturn, 1) := by decide +kernel
theorem dX9_held_0 : decode cX9_held 0 = .ok (.iload_n 1, 1) := by decide +kernel
theorem dX9_held_1 : decode cX9_held 1 = .ok (.iload_n 2, 1) := by decide +kernel
theorem dX9_held_2 : decode cX9_held 2 = .ok (.iload_n 0, 1) := by decide +kernel
theorem dX9_held_3 : decode cX9_held 3 = .ok (.invokestatic 63, 3) := by decide +kernel
theorem dX9_held_6 : decode cX9_held 6 = .ok (.invokestatic 69, 3) := by decide +kernel
theorem dX9_held_9 : decode cX9_held 9 = .ok (.ireturn, 1) := by decide +kernel
theorem dX9_copy_0 : decode cX9_copy 0 = .ok (.iconst 0, 1) := by decide +kernel
theorem dX9_copy_1 : decode cX9_copy 1 = .ok (.istore_n 2, 1) := by decide +kernel
theorem dX9_copy_2 : decode cX9_copy 2 = .ok (.iload_n 2, 1) := by decide +kernel
theorem dX9_copy_3 : decode cX9_copy 3 = .ok (.sipush 210, 3) := by decide +kernel
theorem dX9_copy_6 : decode cX9_copy 6 = .ok (.if_icmp .ge 15, 3) := by decide +kernel
theorem dX9_copy_9 : decode cX9_copy 9 = .ok (.aload_n 1, 1) := by decide +kernel
theorem dX9_copy_10 : decode cX9_copy 10 = .ok (.iload_n 2, 1) := by decide +kernel
theorem dX9_copy_11 : decode cX9_copy 11 = .ok (.aload_n 0, 1) := by decide +kernel
theorem dX9_copy_12 : decode cX9_copy 12 = .ok (.iload_n 2, 1) := by decide +kernel
theorem dX9_copy_13 : decode cX9_copy 13 = .ok (.iaload, 1) := by decide +kernel
theorem dX9_copy_14 : decode cX9_copy 14 = .ok (.iastore, 1) := by decide +kernel
theorem dX9_copy_15 : decode cX9_copy 15 = .ok (.iinc 2 1, 3) := by decide +kernel
theorem dX9_copy_18 : decode cX9_copy 18 = .ok (.goto (-16), 3) := by decide +kernel
theorem dX9_copy_21 : decode cX9_copy 21 = .ok (.return_, 1) := by decide +kernel
theorem dX9_turn_0 : decode cX9_turn 0 = .ok (.aload_n 0, 1) := by decide +kernel
theorem dX9_turn_1 : decode cX9_turn 1 = .ok (.getfield 9, 3) := by decide +kernel
theorem dX9_turn_4 : decode cX9_turn 4 = .ok (.iload_n 1, 1) := by decide +kernel
theorem dX9_turn_5 : decode cX9_turn 5 = .ok (.iaload, 1) := by decide +kernel
theorem dX9_turn_6 : decode cX9_turn 6 = .ok (.istore_n 3, 1) := by decide +kernel
theorem dX9_turn_7 : decode cX9_turn 7 = .ok (.aload_n 0, 1) := by decide +kernel
theorem dX9_turn_8 : decode cX9_turn 8 = .ok (.getfield 9, 3) := by decide +kernel
theorem dX9_turn_11 : decode cX9_turn 11 = .ok (.iload_n 1, 1) := by decide +kernel
theorem dX9_turn_12 : decode cX9_turn 12 = .ok (.iload_n 2, 1) := by decide +kernel
theorem dX9_turn_13 : decode cX9_turn 13 = .ok (.iastore, 1) := by decide +kernel
theorem dX9_turn_14 : decode cX9_turn 14 = .ok (.iload_n 3, 1) := by decide +kernel
theorem dX9_turn_15 : decode cX9_turn 15 = .ok (.ireturn, 1) := by decide +kernel
theorem dX9_putBack_0 : decode cX9_putBack 0 = .ok (.aload_n 0, 1) := by decide +kernel
theorem dX9_putBack_1 : decode cX9_putBack 1 = .ok (.getfield 16, 3) := by decide +kernel
theorem dX9_putBack_4 : decode cX9_putBack 4 = .ok (.aload_n 0, 1) := by decide +kernel
theorem dX9_putBack_5 : decode cX9_putBack 5 = .ok (.getfield 9, 3) := by decide +kernel
theorem dX9_putBack_8 : decode cX9_putBack 8 = .ok (.invokestatic 72, 3) := by decide +kernel
theorem dX9_putBack_11 : decode cX9_putBack 11 = .ok (.iload_n 1, 1) := by decide +kernel
theorem dX9_putBack_12 : decode cX9_putBack 12 = .ok (.ireturn, 1) := by decide +kernel
theorem dX9_feed_0 : decode cX9_feed 0 = .ok (.iload_n 3, 1) := by decide +kernel
theorem dX9_feed_1 : decode cX9_feed 1 = .ok (.iconst 1, 1) := by decide +kernel
theorem dX9_feed_2 : decode cX9_feed 2 = .ok (.bipush 8, 2) := by decide +kernel
theorem dX9_feed_4 : decode cX9_feed 4 = .ok (.invokestatic 76, 3) := by decide +kernel
theorem dX9_feed_7 : decode cX9_feed 7 = .ok (.ifCond .ne 10, 3) := by decide +kernel
theorem dX9_feed_10 : decode cX9_feed 10 = .ok (.aload_n 0, 1) := by decide +kernel
theorem dX9_feed_11 : decode cX9_feed 11 = .ok (.ldc 80, 2) := by decide +kernel
theorem dX9_feed_13 : decode cX9_feed 13 = .ok (.invokevirtual 81, 3) := by decide +kernel
theorem dX9_feed_16 : decode cX9_feed 16 = .ok (.ireturn, 1) := by decide +kernel
theorem dX9_feed_17 : decode cX9_feed 17 = .ok (.aload_n 0, 1) := by decide +kernel
theorem dX9_feed_18 : decode cX9_feed 18 = .ok (.getfield 9, 3) := by decide +kernel
theorem dX9_feed_21 : decode cX9_feed 21 = .ok (.iconst 3, 1) := by decide +kernel
theorem dX9_feed_22 : decode cX9_feed 22 = .ok (.iaload, 1) := by decide +kernel
theorem dX9_feed_23 : decode cX9_feed 23 = .ok (.iload_n 3, 1) := by decide +kernel
theorem dX9_feed_24 : decode cX9_feed 24 = .ok (.iadd, 1) := by decide +kernel
theorem dX9_feed_25 : decode cX9_feed 25 = .ok (.bipush 50, 2) := by decide +kernel
theorem dX9_feed_27 : decode cX9_feed 27 = .ok (.if_icmp .le 10, 3) := by decide +kernel
theorem dX9_feed_30 : decode cX9_feed 30 = .ok (.aload_n 0, 1) := by decide +kernel
theorem dX9_feed_31 : decode cX9_feed 31 = .ok (.ldc 85, 2) := by decide +kernel
theorem dX9_feed_33 : decode cX9_feed 33 = .ok (.invokevirtual 81, 3) := by decide +kernel
theorem dX9_feed_36 : decode cX9_feed 36 = .ok (.ireturn, 1) := by decide +kernel
theorem dX9_feed_37 : decode cX9_feed 37 = .ok (.iconst 0, 1) := by decide +kernel
theorem dX9_feed_38 : decode cX9_feed 38 = .ok (.istore 4, 2) := by decide +kernel
theorem dX9_feed_40 : decode cX9_feed 40 = .ok (.iload 4, 2) := by decide +kernel
theorem dX9_feed_42 : decode cX9_feed 42 = .ok (.iload_n 3, 1) := by decide +kernel
theorem dX9_feed_43 : decode cX9_feed 43 = .ok (.if_icmp .ge 45, 3) := by decide +kernel
theorem dX9_feed_46 : decode cX9_feed 46 = .ok (.aload_n 0, 1) := by decide +kernel
theorem dX9_feed_47 : decode cX9_feed 47 = .ok (.getfield 9, 3) := by decide +kernel
theorem dX9_feed_50 : decode cX9_feed 50 = .ok (.bipush 36, 2) := by decide +kernel
theorem dX9_feed_52 : decode cX9_feed 52 = .ok (.aload_n 0, 1) := by decide +kernel
theorem dX9_feed_53 : decode cX9_feed 53 = .ok (.getfield 9, 3) := by decide +kernel
theorem dX9_feed_56 : decode cX9_feed 56 = .ok (.iconst 3, 1) := by decide +kernel
theorem dX9_feed_57 : decode cX9_feed 57 = .ok (.iaload, 1) := by decide +kernel
theorem dX9_feed_58 : decode cX9_feed 58 = .ok (.iadd, 1) := by decide +kernel
theorem dX9_feed_59 : decode cX9_feed 59 = .ok (.lload_n 1, 1) := by decide +kernel
theorem dX9_feed_60 : decode cX9_feed 60 = .ok (.bipush 8, 2) := by decide +kernel
theorem dX9_feed_62 : decode cX9_feed 62 = .ok (.iload 4, 2) := by decide +kernel
theorem dX9_feed_64 : decode cX9_feed 64 = .ok (.imul, 1) := by decide +kernel
theorem dX9_feed_65 : decode cX9_feed 65 = .ok (.lshr, 1) := by decide +kernel
theorem dX9_feed_66 : decode cX9_feed 66 = .ok (.ldc2_w 86, 3) := by decide +kernel
theorem dX9_feed_69 : decode cX9_feed 69 = .ok (.land, 1) := by decide +kernel
theorem dX9_feed_70 : decode cX9_feed 70 = .ok (.l2i, 1) := by decide +kernel
theorem dX9_feed_71 : decode cX9_feed 71 = .ok (.iastore, 1) := by decide +kernel
theorem dX9_feed_72 : decode cX9_feed 72 = .ok (.aload_n 0, 1) := by decide +kernel
theorem dX9_feed_73 : decode cX9_feed 73 = .ok (.getfield 9, 3) := by decide +kernel
theorem dX9_feed_76 : decode cX9_feed 76 = .ok (.iconst 3, 1) := by decide +kernel
theorem dX9_feed_77 : decode cX9_feed 77 = .ok (.dup2, 1) := by decide +kernel
theorem dX9_feed_78 : decode cX9_feed 78 = .ok (.iaload, 1) := by decide +kernel
theorem dX9_feed_79 : decode cX9_feed 79 = .ok (.iconst 1, 1) := by decide +kernel
theorem dX9_feed_80 : decode cX9_feed 80 = .ok (.iadd, 1) := by decide +kernel
theorem dX9_feed_81 : decode cX9_feed 81 = .ok (.iastore, 1) := by decide +kernel
theorem dX9_feed_82 : decode cX9_feed 82 = .ok (.iinc 4 1, 3) := by decide +kernel
theorem dX9_feed_85 : decode cX9_feed 85 = .ok (.goto (-45), 3) := by decide +kernel
theorem dX9_feed_88 : decode cX9_feed 88 = .ok (.aload_n 0, 1) := by decide +kernel
theorem dX9_feed_89 : decode cX9_feed 89 = .ok (.getfield 9, 3) := by decide +kernel
theorem dX9_feed_92 : decode cX9_feed 92 = .ok (.iconst 3, 1) := by decide +kernel
theorem dX9_feed_93 : decode cX9_feed 93 = .ok (.iaload, 1) := by decide +kernel
theorem dX9_feed_94 : decode cX9_feed 94 = .ok (.ireturn, 1) := by decide +kernel
theorem dX9_here_0 : decode cX9_here 0 = .ok (.aload_n 0, 1) := by decide +kernel
theorem dX9_here_1 : decode cX9_here 1 = .ok (.getfield 88, 3) := by decide +kernel
theorem dX9_here_4 : decode cX9_here 4 = .ok (.ifCond .ne 31, 3) := by decide +kernel
theorem dX9_here_7 : decode cX9_here 7 = .ok (.aload_n 0, 1) := by decide +kernel
theorem dX9_here_8 : decode cX9_here 8 = .ok (.getfield 92, 3) := by decide +kernel
theorem dX9_here_11 : decode cX9_here 11 = .ok (.aload_n 0, 1) := by decide +kernel
theorem dX9_here_12 : decode cX9_here 12 = .ok (.getfield 9, 3) := by decide +kernel
theorem dX9_here_15 : decode cX9_here 15 = .ok (.iconst 3, 1) := by decide +kernel
theorem dX9_here_16 : decode cX9_here 16 = .ok (.iaload, 1) := by decide +kernel
theorem dX9_here_17 : decode cX9_here 17 = .ok (.if_icmp .ge 18, 3) := by decide +kernel
theorem dX9_here_20 : decode cX9_here 20 = .ok (.aload_n 0, 1) := by decide +kernel
theorem dX9_here_21 : decode cX9_here 21 = .ok (.getfield 9, 3) := by decide +kernel
theorem dX9_here_24 : decode cX9_here 24 = .ok (.bipush 36, 2) := by decide +kernel
theorem dX9_here_26 : decode cX9_here 26 = .ok (.aload_n 0, 1) := by decide +kernel
theorem dX9_here_27 : decode cX9_here 27 = .ok (.getfield 92, 3) := by decide +kernel
theorem dX9_here_30 : decode cX9_here 30 = .ok (.iadd, 1) := by decide +kernel
theorem dX9_here_31 : decode cX9_here 31 = .ok (.iaload, 1) := by decide +kernel
theorem dX9_here_32 : decode cX9_here 32 = .ok (.goto 4, 3) := by decide +kernel
theorem dX9_here_35 : decode cX9_here 35 = .ok (.iconst (-1), 1) := by decide +kernel
theorem dX9_here_36 : decode cX9_here 36 = .ok (.ireturn, 1) := by decide +kernel
theorem dX9_takes_0 : decode cX9_takes 0 = .ok (.aload_n 0, 1) := by decide +kernel
theorem dX9_takes_1 : decode cX9_takes 1 = .ok (.invokevirtual 96, 3) := by decide +kernel
theorem dX9_takes_4 : decode cX9_takes 4 = .ok (.iload_n 1, 1) := by decide +kernel
theorem dX9_takes_5 : decode cX9_takes 5 = .ok (.if_icmp .ne 7, 3) := by decide +kernel
theorem dX9_takes_8 : decode cX9_takes 8 = .ok (.iconst 1, 1) := by decide +kernel
theorem dX9_takes_9 : decode cX9_takes 9 = .ok (.goto 4, 3) := by decide +kernel
theorem dX9_takes_12 : decode cX9_takes 12 = .ok (.iconst 0, 1) := by decide +kernel
theorem dX9_takes_13 : decode cX9_takes 13 = .ok (.istore_n 2, 1) := by decide +kernel
theorem dX9_takes_14 : decode cX9_takes 14 = .ok (.aload_n 0, 1) := by decide +kernel
theorem dX9_takes_15 : decode cX9_takes 15 = .ok (.dup, 1) := by decide +kernel
theorem dX9_takes_16 : decode cX9_takes 16 = .ok (.getfield 92, 3) := by decide +kernel
theorem dX9_takes_19 : decode cX9_takes 19 = .ok (.iload_n 2, 1) := by decide +kernel
theorem dX9_takes_20 : decode cX9_takes 20 = .ok (.ifCond .eq 7, 3) := by decide +kernel
theorem dX9_takes_23 : decode cX9_takes 23 = .ok (.iconst 1, 1) := by decide +kernel
theorem dX9_takes_24 : decode cX9_takes 24 = .ok (.goto 4, 3) := by decide +kernel
theorem dX9_takes_27 : decode cX9_takes 27 = .ok (.iconst 0, 1) := by decide +kernel
theorem dX9_takes_28 : decode cX9_takes 28 = .ok (.iadd, 1) := by decide +kernel
theorem dX9_takes_29 : decode cX9_takes 29 = .ok (.putfield 92, 3) := by decide +kernel
theorem dX9_takes_32 : decode cX9_takes 32 = .ok (.iload_n 2, 1) := by decide +kernel
theorem dX9_takes_33 : decode cX9_takes 33 = .ok (.ireturn, 1) := by decide +kernel
theorem dX9_codes_0 : decode cX9_codes 0 = .ok (.aload_n 0, 1) := by decide +kernel
theorem dX9_codes_1 : decode cX9_codes 1 = .ok (.getfield 88, 3) := by decide +kernel
theorem dX9_codes_4 : decode cX9_codes 4 = .ok (.ifCond .ne 23, 3) := by decide +kernel
theorem dX9_codes_7 : decode cX9_codes 7 = .ok (.aload_n 0, 1) := by decide +kernel
theorem dX9_codes_8 : decode cX9_codes 8 = .ok (.getfield 32, 3) := by decide +kernel
theorem dX9_codes_11 : decode cX9_codes 11 = .ok (.aload_n 0, 1) := by decide +kernel
theorem dX9_codes_12 : decode cX9_codes 12 = .ok (.getfield 100, 3) := by decide +kernel
theorem dX9_codes_15 : decode cX9_codes 15 = .ok (.iload_n 1, 1) := by decide +kernel
theorem dX9_codes_16 : decode cX9_codes 16 = .ok (.iastore, 1) := by decide +kernel
theorem dX9_codes_17 : decode cX9_codes 17 = .ok (.aload_n 0, 1) := by decide +kernel
theorem dX9_codes_18 : decode cX9_codes 18 = .ok (.dup, 1) := by decide +kernel
theorem dX9_codes_19 : decode cX9_codes 19 = .ok (.getfield 100, 3) := by decide +kernel
theorem dX9_codes_22 : decode cX9_codes 22 = .ok (.iconst 1, 1) := by decide +kernel
theorem dX9_codes_23 : decode cX9_codes 23 = .ok (.iadd, 1) := by decide +kernel
theorem dX9_codes_24 : decode cX9_codes 24 = .ok (.putfield 100, 3) := by decide +kernel
theorem dX9_codes_27 : decode cX9_codes 27 = .ok (.return_, 1) := by decide +kernel
theorem dX9_either_0 : decode cX9_either 0 = .ok (.aload_n 0, 1) := by decide +kernel
theorem dX9_either_1 : decode cX9_either 1 = .ok (.invokevirtual 103, 3) := by decide +kernel
theorem dX9_either_4 : decode cX9_either 4 = .ok (.aload_n 0, 1) := by decide +kernel
theorem dX9_either_5 : decode cX9_either 5 = .ok (.bipush 124, 2) := by decide +kernel
theorem dX9_either_7 : decode cX9_either 7 = .ok (.invokevirtual 106, 3) := by decide +kernel
theorem dX9_either_10 : decode cX9_either 10 = .ok (.ifCond .eq 17, 3) := by decide +kernel
theorem dX9_either_13 : decode cX9_either 13 = .ok (.aload_n 0, 1) := by decide +kernel
theorem dX9_either_14 : decode cX9_either 14 = .ok (.invokevirtual 103, 3) := by decide +kernel
theorem dX9_either_17 : decode cX9_either 17 = .ok (.aload_n 0, 1) := by decide +kernel
theorem dX9_either_18 : decode cX9_either 18 = .ok (.sipush 20000, 3) := by decide +kernel
theorem dX9_either_21 : decode cX9_either 21 = .ok (.invokevirtual 110, 3) := by decide +kernel
theorem dX9_either_24 : decode cX9_either 24 = .ok (.goto (-20), 3) := by decide +kernel
theorem dX9_either_27 : decode cX9_either 27 = .ok (.return_, 1) := by decide +kernel
theorem dX9_both_0 : decode cX9_both 0 = .ok (.aload_n 0, 1) := by decide +kernel
theorem dX9_both_1 : decode cX9_both 1 = .ok (.invokevirtual 114, 3) := by decide +kernel
theorem dX9_both_4 : decode cX9_both 4 = .ok (.aload_n 0, 1) := by decide +kernel
theorem dX9_both_5 : decode cX9_both 5 = .ok (.bipush 38, 2) := by decide +kernel
theorem dX9_both_7 : decode cX9_both 7 = .ok (.invokevirtual 106, 3) := by decide +kernel
theorem dX9_both_10 : decode cX9_both 10 = .ok (.ifCond .eq 17, 3) := by decide +kernel
theorem dX9_both_13 : decode cX9_both 13 = .ok (.aload_n 0, 1) := by decide +kernel
theorem dX9_both_14 : decode cX9_both 14 = .ok (.invokevirtual 114, 3) := by decide +kernel
theorem dX9_both_17 : decode cX9_both 17 = .ok (.aload_n 0, 1) := by decide +kernel
theorem dX9_both_18 : decode cX9_both 18 = .ok (.sipush 20001, 3) := by decide +kernel
theorem dX9_both_21 : decode cX9_both 21 = .ok (.invokevirtual 110, 3) := by decide +kernel
theorem dX9_both_24 : decode cX9_both 24 = .ok (.goto (-20), 3) := by decide +kernel
theorem dX9_both_27 : decode cX9_both 27 = .ok (.return_, 1) := by decide +kernel
theorem dX9_compared_0 : decode cX9_compared 0 = .ok (.aload_n 0, 1) := by decide +kernel
theorem dX9_compared_1 : decode cX9_compared 1 = .ok (.invokevirtual 117, 3) := by decide +kernel
theorem dX9_compared_4 : decode cX9_compared 4 = .ok (.aload_n 0, 1) := by decide +kernel
theorem dX9_compared_5 : decode cX9_compared 5 = .ok (.bipush 60, 2) := by decide +kernel
theorem dX9_compared_7 : decode cX9_compared 7 = .ok (.invokevirtual 106, 3) := by decide +kernel
theorem dX9_compared_10 : decode cX9_compared 10 = .ok (.ifCond .eq 9, 3) := by decide +kernel
theorem dX9_compared_13 : decode cX9_compared 13 = .ok (.sipush 20002, 3) := by decide +kernel
theorem dX9_compared_16 : decode cX9_compared 16 = .ok (.goto 34, 3) := by decide +kernel
theorem dX9_compared_19 : decode cX9_compared 19 = .ok (.aload_n 0, 1) := by decide +kernel
theorem dX9_compared_20 : decode cX9_compared 20 = .ok (.bipush 61, 2) := by decide +kernel
theorem dX9_compared_22 : decode cX9_compared 22 = .ok (.invokevirtual 106, 3) := by decide +kernel
theorem dX9_compared_25 : decode cX9_compared 25 = .ok (.ifCond .eq 9, 3) := by decide +kernel
theorem dX9_compared_28 : decode cX9_compared 28 = .ok (.sipush 20003, 3) := by decide +kernel
theorem dX9_compared_31 : decode cX9_compared 31 = .ok (.goto 19, 3) := by decide +kernel
theorem dX9_compared_34 : decode cX9_compared 34 = .ok (.aload_n 0, 1) := by decide +kernel
theorem dX9_compared_35 : decode cX9_compared 35 = .ok (.bipush 62, 2) := by decide +kernel
theorem dX9_compared_37 : decode cX9_compared 37 = .ok (.invokevirtual 106, 3) := by decide +kernel
theorem dX9_compared_40 : decode cX9_compared 40 = .ok (.ifCond .eq 9, 3) := by decide +kernel
theorem dX9_compared_43 : decode cX9_compared 43 = .ok (.sipush 20004, 3) := by decide +kernel
theorem dX9_compared_46 : decode cX9_compared 46 = .ok (.goto 4, 3) := by decide +kernel
theorem dX9_compared_49 : decode cX9_compared 49 = .ok (.iconst 0, 1) := by decide +kernel
theorem dX9_compared_50 : decode cX9_compared 50 = .ok (.istore_n 1, 1) := by decide +kernel
theorem dX9_compared_51 : decode cX9_compared 51 = .ok (.iload_n 1, 1) := by decide +kernel
theorem dX9_compared_52 : decode cX9_compared 52 = .ok (.ifCond .le 12, 3) := by decide +kernel
theorem dX9_compared_55 : decode cX9_compared 55 = .ok (.aload_n 0, 1) := by decide +kernel
theorem dX9_compared_56 : decode cX9_compared 56 = .ok (.invokevirtual 117, 3) := by decide +kernel
theorem dX9_compared_59 : decode cX9_compared 59 = .ok (.aload_n 0, 1) := by decide +kernel
theorem dX9_compared_60 : decode cX9_compared 60 = .ok (.iload_n 1, 1) := by decide +kernel
theorem dX9_compared_61 : decode cX9_compared 61 = .ok (.invokevirtual 110, 3) := by decide +kernel
theorem dX9_compared_64 : decode cX9_compared 64 = .ok (.return_, 1) := by decide +kernel
theorem dX9_sum_0 : decode cX9_sum 0 = .ok (.aload_n 0, 1) := by decide +kernel
theorem dX9_sum_1 : decode cX9_sum 1 = .ok (.invokevirtual 120, 3) := by decide +kernel
theorem dX9_sum_4 : decode cX9_sum 4 = .ok (.aload_n 0, 1) := by decide +kernel
theorem dX9_sum_5 : decode cX9_sum 5 = .ok (.bipush 43, 2) := by decide +kernel
theorem dX9_sum_7 : decode cX9_sum 7 = .ok (.invokevirtual 106, 3) := by decide +kernel
theorem dX9_sum_10 : decode cX9_sum 10 = .ok (.ifCond .eq 9, 3) := by decide +kernel
theorem dX9_sum_13 : decode cX9_sum 13 = .ok (.sipush 20005, 3) := by decide +kernel
theorem dX9_sum_16 : decode cX9_sum 16 = .ok (.goto 19, 3) := by decide +kernel
theorem dX9_sum_19 : decode cX9_sum 19 = .ok (.aload_n 0, 1) := by decide +kernel
theorem dX9_sum_20 : decode cX9_sum 20 = .ok (.bipush 45, 2) := by decide +kernel
theorem dX9_sum_22 : decode cX9_sum 22 = .ok (.invokevirtual 106, 3) := by decide +kernel
theorem dX9_sum_25 : decode cX9_sum 25 = .ok (.ifCond .eq 9, 3) := by decide +kernel
theorem dX9_sum_28 : decode cX9_sum 28 = .ok (.sipush 20006, 3) := by decide +kernel
theorem dX9_sum_31 : decode cX9_sum 31 = .ok (.goto 4, 3) := by decide +kernel
theorem dX9_sum_34 : decode cX9_sum 34 = .ok (.iconst 0, 1) := by decide +kernel
theorem dX9_sum_35 : decode cX9_sum 35 = .ok (.istore_n 1, 1) := by decide +kernel
theorem dX9_sum_36 : decode cX9_sum 36 = .ok (.iload_n 1, 1) := by decide +kernel
theorem dX9_sum_37 : decode cX9_sum 37 = .ok (.ifCond .le 47, 3) := by decide +kernel
theorem dX9_sum_40 : decode cX9_sum 40 = .ok (.aload_n 0, 1) := by decide +kernel
theorem dX9_sum_41 : decode cX9_sum 41 = .ok (.invokevirtual 120, 3) := by decide +kernel
theorem dX9_sum_44 : decode cX9_sum 44 = .ok (.aload_n 0, 1) := by decide +kernel
theorem dX9_sum_45 : decode cX9_sum 45 = .ok (.iload_n 1, 1) := by decide +kernel
theorem dX9_sum_46 : decode cX9_sum 46 = .ok (.invokevirtual 110, 3) := by decide +kernel
theorem dX9_sum_49 : decode cX9_sum 49 = .ok (.aload_n 0, 1) := by decide +kernel
theorem dX9_sum_50 : decode cX9_sum 50 = .ok (.bipush 43, 2) := by decide +kernel
theorem dX9_sum_52 : decode cX9_sum 52 = .ok (.invokevirtual 106, 3) := by decide +kernel
theorem dX9_sum_55 : decode cX9_sum 55 = .ok (.ifCond .eq 9, 3) := by decide +kernel
theorem dX9_sum_58 : decode cX9_sum 58 = .ok (.sipush 20005, 3) := by decide +kernel
theorem dX9_sum_61 : decode cX9_sum 61 = .ok (.goto 19, 3) := by decide +kernel
theorem dX9_sum_64 : decode cX9_sum 64 = .ok (.aload_n 0, 1) := by decide +kernel
theorem dX9_sum_65 : decode cX9_sum 65 = .ok (.bipush 45, 2) := by decide +kernel
theorem dX9_sum_67 : decode cX9_sum 67 = .ok (.invokevirtual 106, 3) := by decide +kernel
theorem dX9_sum_70 : decode cX9_sum 70 = .ok (.ifCond .eq 9, 3) := by decide +kernel
theorem dX9_sum_73 : decode cX9_sum 73 = .ok (.sipush 20006, 3) := by decide +kernel
theorem dX9_sum_76 : decode cX9_sum 76 = .ok (.goto 4, 3) := by decide +kernel
theorem dX9_sum_79 : decode cX9_sum 79 = .ok (.iconst 0, 1) := by decide +kernel
theorem dX9_sum_80 : decode cX9_sum 80 = .ok (.istore_n 1, 1) := by decide +kernel
theorem dX9_sum_81 : decode cX9_sum 81 = .ok (.goto (-45), 3) := by decide +kernel
theorem dX9_sum_84 : decode cX9_sum 84 = .ok (.return_, 1) := by decide +kernel
theorem dX9_product_0 : decode cX9_product 0 = .ok (.aload_n 0, 1) := by decide +kernel
theorem dX9_product_1 : decode cX9_product 1 = .ok (.invokevirtual 123, 3) := by decide +kernel
theorem dX9_product_4 : decode cX9_product 4 = .ok (.aload_n 0, 1) := by decide +kernel
theorem dX9_product_5 : decode cX9_product 5 = .ok (.bipush 42, 2) := by decide +kernel
theorem dX9_product_7 : decode cX9_product 7 = .ok (.invokevirtual 106, 3) := by decide +kernel
theorem dX9_product_10 : decode cX9_product 10 = .ok (.ifCond .eq 9, 3) := by decide +kernel
theorem dX9_product_13 : decode cX9_product 13 = .ok (.sipush 20007, 3) := by decide +kernel
theorem dX9_product_16 : decode cX9_product 16 = .ok (.goto 34, 3) := by decide +kernel
theorem dX9_product_19 : decode cX9_product 19 = .ok (.aload_n 0, 1) := by decide +kernel
theorem dX9_product_20 : decode cX9_product 20 = .ok (.bipush 47, 2) := by decide +kernel
theorem dX9_product_22 : decode cX9_product 22 = .ok (.invokevirtual 106, 3) := by decide +kernel
theorem dX9_product_25 : decode cX9_product 25 = .ok (.ifCond .eq 9, 3) := by decide +kernel
theorem dX9_product_28 : decode cX9_product 28 = .ok (.sipush 20008, 3) := by decide +kernel
theorem dX9_product_31 : decode cX9_product 31 = .ok (.goto 19, 3) := by decide +kernel
theorem dX9_product_34 : decode cX9_product 34 = .ok (.aload_n 0, 1) := by decide +kernel
theorem dX9_product_35 : decode cX9_product 35 = .ok (.bipush 37, 2) := by decide +kernel
theorem dX9_product_37 : decode cX9_product 37 = .ok (.invokevirtual 106, 3) := by decide +kernel
theorem dX9_product_40 : decode cX9_product 40 = .ok (.ifCond .eq 9, 3) := by decide +kernel
theorem dX9_product_43 : decode cX9_product 43 = .ok (.sipush 20009, 3) := by decide +kernel
theorem dX9_product_46 : decode cX9_product 46 = .ok (.goto 4, 3) := by decide +kernel
theorem dX9_product_49 : decode cX9_product 49 = .ok (.iconst 0, 1) := by decide +kernel
theorem dX9_product_50 : decode cX9_product 50 = .ok (.istore_n 1, 1) := by decide +kernel
theorem dX9_product_51 : decode cX9_product 51 = .ok (.iload_n 1, 1) := by decide +kernel
theorem dX9_product_52 : decode cX9_product 52 = .ok (.ifCond .le 62, 3) := by decide +kernel
theorem dX9_product_55 : decode cX9_product 55 = .ok (.aload_n 0, 1) := by decide +kernel
theorem dX9_product_56 : decode cX9_product 56 = .ok (.invokevirtual 123, 3) := by decide +kernel
theorem dX9_product_59 : decode cX9_product 59 = .ok (.aload_n 0, 1) := by decide +kernel
theorem dX9_product_60 : decode cX9_product 60 = .ok (.iload_n 1, 1) := by decide +kernel
theorem dX9_product_61 : decode cX9_product 61 = .ok (.invokevirtual 110, 3) := by decide +kernel
theorem dX9_product_64 : decode cX9_product 64 = .ok (.aload_n 0, 1) := by decide +kernel
theorem dX9_product_65 : decode cX9_product 65 = .ok (.bipush 42, 2) := by decide +kernel
theorem dX9_product_67 : decode cX9_product 67 = .ok (.invokevirtual 106, 3) := by decide +kernel
theorem dX9_product_70 : decode cX9_product 70 = .ok (.ifCond .eq 9, 3) := by decide +kernel
theorem dX9_product_73 : decode cX9_product 73 = .ok (.sipush 20007, 3) := by decide +kernel
theorem dX9_product_76 : decode cX9_product 76 = .ok (.goto 34, 3) := by decide +kernel
theorem dX9_product_79 : decode cX9_product 79 = .ok (.aload_n 0, 1) := by decide +kernel
theorem dX9_product_80 : decode cX9_product 80 = .ok (.bipush 47, 2) := by decide +kernel
theorem dX9_product_82 : decode cX9_product 82 = .ok (.invokevirtual 106, 3) := by decide +kernel
theorem dX9_product_85 : decode cX9_product 85 = .ok (.ifCond .eq 9, 3) := by decide +kernel
theorem dX9_product_88 : decode cX9_product 88 = .ok (.sipush 20008, 3) := by decide +kernel
theorem dX9_product_91 : decode cX9_product 91 = .ok (.goto 19, 3) := by decide +kernel
theorem dX9_product_94 : decode cX9_product 94 = .ok (.aload_n 0, 1) := by decide +kernel
theorem dX9_product_95 : decode cX9_product 95 = .ok (.bipush 37, 2) := by decide +kernel
theorem dX9_product_97 : decode cX9_product 97 = .ok (.invokevirtual 106, 3) := by decide +kernel
theorem dX9_product_100 : decode cX9_product 100 = .ok (.ifCond .eq 9, 3) := by decide +kernel
theorem dX9_product_103 : decode cX9_product 103 = .ok (.sipush 20009, 3) := by decide +kernel
theorem dX9_product_106 : decode cX9_product 106 = .ok (.goto 4, 3) := by decide +kernel
theorem dX9_product_109 : decode cX9_product 109 = .ok (.iconst 0, 1) := by decide +kernel
theorem dX9_product_110 : decode cX9_product 110 = .ok (.istore_n 1, 1) := by decide +kernel
theorem dX9_product_111 : decode cX9_product 111 = .ok (.goto (-60), 3) := by decide +kernel
theorem dX9_product_114 : decode cX9_product 114 = .ok (.return_, 1) := by decide +kernel
theorem dX9_nameOf_0 : decode cX9_nameOf 0 = .ok (.iconst (-1), 1) := by decide +kernel
theorem dX9_nameOf_1 : decode cX9_nameOf 1 = .ok (.istore_n 2, 1) := by decide +kernel
theorem dX9_nameOf_2 : decode cX9_nameOf 2 = .ok (.iconst 0, 1) := by decide +kernel
theorem dX9_nameOf_3 : decode cX9_nameOf 3 = .ok (.istore_n 3, 1) := by decide +kernel
theorem dX9_nameOf_4 : decode cX9_nameOf 4 = .ok (.iload_n 3, 1) := by decide +kernel
theorem dX9_nameOf_5 : decode cX9_nameOf 5 = .ok (.aload_n 0, 1) := by decide +kernel
theorem dX9_nameOf_6 : decode cX9_nameOf 6 = .ok (.getfield 28, 3) := by decide +kernel
theorem dX9_nameOf_9 : decode cX9_nameOf 9 = .ok (.aload_n 0, 1) := by decide +kernel
theorem dX9_nameOf_10 : decode cX9_nameOf 10 = .ok (.getfield 126, 3) := by decide +kernel
theorem dX9_nameOf_13 : decode cX9_nameOf 13 = .ok (.aaload, 1) := by decide +kernel
theorem dX9_nameOf_14 : decode cX9_nameOf 14 = .ok (.invokevirtual 129, 3) := by decide +kernel
theorem dX9_nameOf_17 : decode cX9_nameOf 17 = .ok (.if_icmp .ge 32, 3) := by decide +kernel
theorem dX9_nameOf_20 : decode cX9_nameOf 20 = .ok (.aload_n 0, 1) := by decide +kernel
theorem dX9_nameOf_21 : decode cX9_nameOf 21 = .ok (.getfield 28, 3) := by decide +kernel
theorem dX9_nameOf_24 : decode cX9_nameOf 24 = .ok (.aload_n 0, 1) := by decide +kernel
theorem dX9_nameOf_25 : decode cX9_nameOf 25 = .ok (.getfield 126, 3) := by decide +kernel
theorem dX9_nameOf_28 : decode cX9_nameOf 28 = .ok (.aaload, 1) := by decide +kernel
theorem dX9_nameOf_29 : decode cX9_nameOf 29 = .ok (.iload_n 3, 1) := by decide +kernel
theorem dX9_nameOf_30 : decode cX9_nameOf 30 = .ok (.invokevirtual 132, 3) := by decide +kernel
theorem dX9_nameOf_33 : decode cX9_nameOf 33 = .ok (.iload_n 1, 1) := by decide +kernel
theorem dX9_nameOf_34 : decode cX9_nameOf 34 = .ok (.if_icmp .ne 7, 3) := by decide +kernel
theorem dX9_nameOf_37 : decode cX9_nameOf 37 = .ok (.iload_n 3, 1) := by decide +kernel
theorem dX9_nameOf_38 : decode cX9_nameOf 38 = .ok (.goto 4, 3) := by decide +kernel
theorem dX9_nameOf_41 : decode cX9_nameOf 41 = .ok (.iload_n 2, 1) := by decide +kernel
theorem dX9_nameOf_42 : decode cX9_nameOf 42 = .ok (.istore_n 2, 1) := by decide +kernel
theorem dX9_nameOf_43 : decode cX9_nameOf 43 = .ok (.iinc 3 1, 3) := by decide +kernel
theorem dX9_nameOf_46 : decode cX9_nameOf 46 = .ok (.goto (-42), 3) := by decide +kernel
theorem dX9_nameOf_49 : decode cX9_nameOf 49 = .ok (.iload_n 2, 1) := by decide +kernel
theorem dX9_nameOf_50 : decode cX9_nameOf 50 = .ok (.ireturn, 1) := by decide +kernel
theorem dX9_one_0 : decode cX9_one 0 = .ok (.aload_n 0, 1) := by decide +kernel
theorem dX9_one_1 : decode cX9_one 1 = .ok (.invokevirtual 96, 3) := by decide +kernel
theorem dX9_one_4 : decode cX9_one 4 = .ok (.istore_n 1, 1) := by decide +kernel
theorem dX9_one_5 : decode cX9_one 5 = .ok (.iload_n 1, 1) := by decide +kernel
theorem dX9_one_6 : decode cX9_one 6 = .ok (.bipush 33, 2) := by decide +kernel
theorem dX9_one_8 : decode cX9_one 8 = .ok (.if_icmp .eq 9, 3) := by decide +kernel
theorem dX9_one_11 : decode cX9_one 11 = .ok (.iload_n 1, 1) := by decide +kernel
theorem dX9_one_12 : decode cX9_one 12 = .ok (.bipush 40, 2) := by decide +kernel
theorem dX9_one_14 : decode cX9_one 14 = .ok (.if_icmp .ne 102, 3) := by decide +kernel
theorem dX9_one_17 : decode cX9_one 17 = .ok (.aload_n 0, 1) := by decide +kernel
theorem dX9_one_18 : decode cX9_one 18 = .ok (.aload_n 0, 1) := by decide +kernel
theorem dX9_one_19 : decode cX9_one 19 = .ok (.getfield 136, 3) := by decide +kernel
theorem dX9_one_22 : decode cX9_one 22 = .ok (.iconst 5, 1) := by decide +kernel
theorem dX9_one_23 : decode cX9_one 23 = .ok (.if_icmp .ne 7, 3) := by decide +kernel
theorem dX9_one_26 : decode cX9_one 26 = .ok (.iconst 1, 1) := by decide +kernel
theorem dX9_one_27 : decode cX9_one 27 = .ok (.goto 4, 3) := by decide +kernel
theorem dX9_one_30 : decode cX9_one 30 = .ok (.iconst 0, 1) := by decide +kernel
theorem dX9_one_31 : decode cX9_one 31 = .ok (.putfield 88, 3) := by decide +kernel
theorem dX9_one_34 : decode cX9_one 34 = .ok (.aload_n 0, 1) := by decide +kernel
theorem dX9_one_35 : decode cX9_one 35 = .ok (.getfield 88, 3) := by decide +kernel
theorem dX9_one_38 : decode cX9_one 38 = .ok (.ifCond .ne 209, 3) := by decide +kernel
theorem dX9_one_41 : decode cX9_one 41 = .ok (.aload_n 0, 1) := by decide +kernel
theorem dX9_one_42 : decode cX9_one 42 = .ok (.dup, 1) := by decide +kernel
theorem dX9_one_43 : decode cX9_one 43 = .ok (.getfield 136, 3) := by decide +kernel
theorem dX9_one_46 : decode cX9_one 46 = .ok (.iconst 1, 1) := by decide +kernel
theorem dX9_one_47 : decode cX9_one 47 = .ok (.iadd, 1) := by decide +kernel
theorem dX9_one_48 : decode cX9_one 48 = .ok (.putfield 136, 3) := by decide +kernel
theorem dX9_one_51 : decode cX9_one 51 = .ok (.aload_n 0, 1) := by decide +kernel
theorem dX9_one_52 : decode cX9_one 52 = .ok (.dup, 1) := by decide +kernel
theorem dX9_one_53 : decode cX9_one 53 = .ok (.getfield 92, 3) := by decide +kernel
theorem dX9_one_56 : decode cX9_one 56 = .ok (.iconst 1, 1) := by decide +kernel
theorem dX9_one_57 : decode cX9_one 57 = .ok (.iadd, 1) := by decide +kernel
theorem dX9_one_58 : decode cX9_one 58 = .ok (.putfield 92, 3) := by decide +kernel
theorem dX9_one_61 : decode cX9_one 61 = .ok (.iload_n 1, 1) := by decide +kernel
theorem dX9_one_62 : decode cX9_one 62 = .ok (.bipush 33, 2) := by decide +kernel
theorem dX9_one_64 : decode cX9_one 64 = .ok (.if_icmp .ne 17, 3) := by decide +kernel
theorem dX9_one_67 : decode cX9_one 67 = .ok (.aload_n 0, 1) := by decide +kernel
theorem dX9_one_68 : decode cX9_one 68 = .ok (.invokevirtual 123, 3) := by decide +kernel
theorem dX9_one_71 : decode cX9_one 71 = .ok (.aload_n 0, 1) := by decide +kernel
theorem dX9_one_72 : decode cX9_one 72 = .ok (.sipush 20010, 3) := by decide +kernel
theorem dX9_one_75 : decode cX9_one 75 = .ok (.invokevirtual 110, 3) := by decide +kernel
theorem dX9_one_78 : decode cX9_one 78 = .ok (.goto 25, 3) := by decide +kernel
theorem dX9_one_81 : decode cX9_one 81 = .ok (.aload_n 0, 1) := by decide +kernel
theorem dX9_one_82 : decode cX9_one 82 = .ok (.invokevirtual 139, 3) := by decide +kernel
theorem dX9_one_85 : decode cX9_one 85 = .ok (.aload_n 0, 1) := by decide +kernel
theorem dX9_one_86 : decode cX9_one 86 = .ok (.aload_n 0, 1) := by decide +kernel
theorem dX9_one_87 : decode cX9_one 87 = .ok (.bipush 41, 2) := by decide +kernel
theorem dX9_one_89 : decode cX9_one 89 = .ok (.invokevirtual 106, 3) := by decide +kernel
theorem dX9_one_92 : decode cX9_one 92 = .ok (.ifCond .ne 7, 3) := by decide +kernel
theorem dX9_one_95 : decode cX9_one 95 = .ok (.iconst 1, 1) := by decide +kernel
theorem dX9_one_96 : decode cX9_one 96 = .ok (.goto 4, 3) := by decide +kernel
theorem dX9_one_99 : decode cX9_one 99 = .ok (.iconst 0, 1) := by decide +kernel
theorem dX9_one_100 : decode cX9_one 100 = .ok (.putfield 88, 3) := by decide +kernel
theorem dX9_one_103 : decode cX9_one 103 = .ok (.aload_n 0, 1) := by decide +kernel
theorem dX9_one_104 : decode cX9_one 104 = .ok (.dup, 1) := by decide +kernel
theorem dX9_one_105 : decode cX9_one 105 = .ok (.getfield 136, 3) := by decide +kernel
theorem dX9_one_108 : decode cX9_one 108 = .ok (.iconst 1, 1) := by decide +kernel
theorem dX9_one_109 : decode cX9_one 109 = .ok (.isub, 1) := by decide +kernel
theorem dX9_one_110 : decode cX9_one 110 = .ok (.putfield 136, 3) := by decide +kernel
theorem dX9_one_113 : decode cX9_one 113 = .ok (.goto 134, 3) := by decide +kernel
theorem dX9_one_116 : decode cX9_one 116 = .ok (.iload_n 1, 1) := by decide +kernel
theorem dX9_one_117 : decode cX9_one 117 = .ok (.bipush 48, 2) := by decide +kernel
theorem dX9_one_119 : decode cX9_one 119 = .ok (.bipush 57, 2) := by decide +kernel
theorem dX9_one_121 : decode cX9_one 121 = .ok (.invokestatic 76, 3) := by decide +kernel
theorem dX9_one_124 : decode cX9_one 124 = .ok (.ifCond .eq 63, 3) := by decide +kernel
theorem dX9_one_127 : decode cX9_one 127 = .ok (.iconst 0, 1) := by decide +kernel
theorem dX9_one_128 : decode cX9_one 128 = .ok (.istore_n 2, 1) := by decide +kernel
theorem dX9_one_129 : decode cX9_one 129 = .ok (.iconst 0, 1) := by decide +kernel
theorem dX9_one_130 : decode cX9_one 130 = .ok (.istore_n 3, 1) := by decide +kernel
theorem dX9_one_131 : decode cX9_one 131 = .ok (.iload_n 3, 1) := by decide +kernel
theorem dX9_one_132 : decode cX9_one 132 = .ok (.iconst 4, 1) := by decide +kernel
theorem dX9_one_133 : decode cX9_one 133 = .ok (.if_icmp .ge 46, 3) := by decide +kernel
theorem dX9_one_136 : decode cX9_one 136 = .ok (.aload_n 0, 1) := by decide +kernel
theorem dX9_one_137 : decode cX9_one 137 = .ok (.invokevirtual 96, 3) := by decide +kernel
theorem dX9_one_140 : decode cX9_one 140 = .ok (.bipush 48, 2) := by decide +kernel
theorem dX9_one_142 : decode cX9_one 142 = .ok (.bipush 57, 2) := by decide +kernel
theorem dX9_one_144 : decode cX9_one 144 = .ok (.invokestatic 76, 3) := by decide +kernel
theorem dX9_one_147 : decode cX9_one 147 = .ok (.ifCond .eq 32, 3) := by decide +kernel
theorem dX9_one_150 : decode cX9_one 150 = .ok (.bipush 10, 2) := by decide +kernel
theorem dX9_one_152 : decode cX9_one 152 = .ok (.iload_n 2, 1) := by decide +kernel
theorem dX9_one_153 : decode cX9_one 153 = .ok (.imul, 1) := by decide +kernel
theorem dX9_one_154 : decode cX9_one 154 = .ok (.aload_n 0, 1) := by decide +kernel
theorem dX9_one_155 : decode cX9_one 155 = .ok (.invokevirtual 96, 3) := by decide +kernel
theorem dX9_one_158 : decode cX9_one 158 = .ok (.iadd, 1) := by decide +kernel
theorem dX9_one_159 : decode cX9_one 159 = .ok (.bipush 48, 2) := by decide +kernel
theorem dX9_one_161 : decode cX9_one 161 = .ok (.isub, 1) := by decide +kernel
theorem dX9_one_162 : decode cX9_one 162 = .ok (.istore_n 2, 1) := by decide +kernel
theorem dX9_one_163 : decode cX9_one 163 = .ok (.aload_n 0, 1) := by decide +kernel
theorem dX9_one_164 : decode cX9_one 164 = .ok (.dup, 1) := by decide +kernel
theorem dX9_one_165 : decode cX9_one 165 = .ok (.getfield 92, 3) := by decide +kernel
theorem dX9_one_168 : decode cX9_one 168 = .ok (.iconst 1, 1) := by decide +kernel
theorem dX9_one_169 : decode cX9_one 169 = .ok (.iadd, 1) := by decide +kernel
theorem dX9_one_170 : decode cX9_one 170 = .ok (.putfield 92, 3) := by decide +kernel
theorem dX9_one_173 : decode cX9_one 173 = .ok (.iinc 3 1, 3) := by decide +kernel
theorem dX9_one_176 : decode cX9_one 176 = .ok (.goto (-45), 3) := by decide +kernel
theorem dX9_one_179 : decode cX9_one 179 = .ok (.aload_n 0, 1) := by decide +kernel
theorem dX9_one_180 : decode cX9_one 180 = .ok (.iload_n 2, 1) := by decide +kernel
theorem dX9_one_181 : decode cX9_one 181 = .ok (.invokevirtual 110, 3) := by decide +kernel
theorem dX9_one_184 : decode cX9_one 184 = .ok (.goto 63, 3) := by decide +kernel
theorem dX9_one_187 : decode cX9_one 187 = .ok (.iload_n 1, 1) := by decide +kernel
theorem dX9_one_188 : decode cX9_one 188 = .ok (.ifCond .ge 7, 3) := by decide +kernel
theorem dX9_one_191 : decode cX9_one 191 = .ok (.iconst (-1), 1) := by decide +kernel
theorem dX9_one_192 : decode cX9_one 192 = .ok (.goto 8, 3) := by decide +kernel
theorem dX9_one_195 : decode cX9_one 195 = .ok (.aload_n 0, 1) := by decide +kernel
theorem dX9_one_196 : decode cX9_one 196 = .ok (.iload_n 1, 1) := by decide +kernel
theorem dX9_one_197 : decode cX9_one 197 = .ok (.invokevirtual 142, 3) := by decide +kernel
theorem dX9_one_200 : decode cX9_one 200 = .ok (.istore_n 2, 1) := by decide +kernel
theorem dX9_one_201 : decode cX9_one 201 = .ok (.aload_n 0, 1) := by decide +kernel
theorem dX9_one_202 : decode cX9_one 202 = .ok (.aload_n 0, 1) := by decide +kernel
theorem dX9_one_203 : decode cX9_one 203 = .ok (.getfield 88, 3) := by decide +kernel
theorem dX9_one_206 : decode cX9_one 206 = .ok (.ifCond .ne 7, 3) := by decide +kernel
theorem dX9_one_209 : decode cX9_one 209 = .ok (.iload_n 2, 1) := by decide +kernel
theorem dX9_one_210 : decode cX9_one 210 = .ok (.ifCond .ge 7, 3) := by decide +kernel
theorem dX9_one_213 : decode cX9_one 213 = .ok (.iconst 1, 1) := by decide +kernel
theorem dX9_one_214 : decode cX9_one 214 = .ok (.goto 4, 3) := by decide +kernel
theorem dX9_one_217 : decode cX9_one 217 = .ok (.iconst 0, 1) := by decide +kernel
theorem dX9_one_218 : decode cX9_one 218 = .ok (.putfield 88, 3) := by decide +kernel
theorem dX9_one_221 : decode cX9_one 221 = .ok (.aload_n 0, 1) := by decide +kernel
theorem dX9_one_222 : decode cX9_one 222 = .ok (.getfield 88, 3) := by decide +kernel
theorem dX9_one_225 : decode cX9_one 225 = .ok (.ifCond .ne 22, 3) := by decide +kernel
theorem dX9_one_228 : decode cX9_one 228 = .ok (.aload_n 0, 1) := by decide +kernel
theorem dX9_one_229 : decode cX9_one 229 = .ok (.sipush 10000, 3) := by decide +kernel
theorem dX9_one_232 : decode cX9_one 232 = .ok (.iload_n 2, 1) := by decide +kernel
theorem dX9_one_233 : decode cX9_one 233 = .ok (.iadd, 1) := by decide +kernel
theorem dX9_one_234 : decode cX9_one 234 = .ok (.invokevirtual 110, 3) := by decide +kernel
theorem dX9_one_237 : decode cX9_one 237 = .ok (.aload_n 0, 1) := by decide +kernel
theorem dX9_one_238 : decode cX9_one 238 = .ok (.dup, 1) := by decide +kernel
theorem dX9_one_239 : decode cX9_one 239 = .ok (.getfield 92, 3) := by decide +kernel
theorem dX9_one_242 : decode cX9_one 242 = .ok (.iconst 1, 1) := by decide +kernel
theorem dX9_one_243 : decode cX9_one 243 = .ok (.iadd, 1) := by decide +kernel
theorem dX9_one_244 : decode cX9_one 244 = .ok (.putfield 92, 3) := by decide +kernel
theorem dX9_one_247 : decode cX9_one 247 = .ok (.return_, 1) := by decide +kernel
theorem dX9_text_0 : decode cX9_text 0 = .ok (.iload_n 1, 1) := by decide +kernel
theorem dX9_text_1 : decode cX9_text 1 = .ok (.iconst 0, 1) := by decide +kernel
theorem dX9_text_2 : decode cX9_text 2 = .ok (.iconst 1, 1) := by decide +kernel
theorem dX9_text_3 : decode cX9_text 3 = .ok (.invokestatic 76, 3) := by decide +kernel
theorem dX9_text_6 : decode cX9_text 6 = .ok (.ifCond .ne 10, 3) := by decide +kernel
theorem dX9_text_9 : decode cX9_text 9 = .ok (.aload_n 0, 1) := by decide +kernel
theorem dX9_text_10 : decode cX9_text 10 = .ok (.ldc 80, 2) := by decide +kernel
theorem dX9_text_12 : decode cX9_text 12 = .ok (.invokevirtual 81, 3) := by decide +kernel
theorem dX9_text_15 : decode cX9_text 15 = .ok (.ireturn, 1) := by decide +kernel
theorem dX9_text_16 : decode cX9_text 16 = .ok (.aload_n 0, 1) := by decide +kernel
theorem dX9_text_17 : decode cX9_text 17 = .ok (.iload_n 1, 1) := by decide +kernel
theorem dX9_text_18 : decode cX9_text 18 = .ok (.putfield 126, 3) := by decide +kernel
theorem dX9_text_21 : decode cX9_text 21 = .ok (.aload_n 0, 1) := by decide +kernel
theorem dX9_text_22 : decode cX9_text 22 = .ok (.iconst 0, 1) := by decide +kernel
theorem dX9_text_23 : decode cX9_text 23 = .ok (.putfield 92, 3) := by decide +kernel
theorem dX9_text_26 : decode cX9_text 26 = .ok (.aload_n 0, 1) := by decide +kernel
theorem dX9_text_27 : decode cX9_text 27 = .ok (.iconst 0, 1) := by decide +kernel
theorem dX9_text_28 : decode cX9_text 28 = .ok (.putfield 136, 3) := by decide +kernel
theorem dX9_text_31 : decode cX9_text 31 = .ok (.aload_n 0, 1) := by decide +kernel
theorem dX9_text_32 : decode cX9_text 32 = .ok (.iconst 0, 1) := by decide +kernel
theorem dX9_text_33 : decode cX9_text 33 = .ok (.putfield 88, 3) := by decide +kernel
theorem dX9_text_36 : decode cX9_text 36 = .ok (.aload_n 0, 1) := by decide +kernel
theorem dX9_text_37 : decode cX9_text 37 = .ok (.iconst 0, 1) := by decide +kernel
theorem dX9_text_38 : decode cX9_text 38 = .ok (.putfield 100, 3) := by decide +kernel
theorem dX9_text_41 : decode cX9_text 41 = .ok (.aload_n 0, 1) := by decide +kernel
theorem dX9_text_42 : decode cX9_text 42 = .ok (.invokevirtual 139, 3) := by decide +kernel
theorem dX9_text_45 : decode cX9_text 45 = .ok (.aload_n 0, 1) := by decide +kernel
theorem dX9_text_46 : decode cX9_text 46 = .ok (.aload_n 0, 1) := by decide +kernel
theorem dX9_text_47 : decode cX9_text 47 = .ok (.getfield 88, 3) := by decide +kernel
theorem dX9_text_50 : decode cX9_text 50 = .ok (.ifCond .ne 16, 3) := by decide +kernel
theorem dX9_text_53 : decode cX9_text 53 = .ok (.aload_n 0, 1) := by decide +kernel
theorem dX9_text_54 : decode cX9_text 54 = .ok (.getfield 92, 3) := by decide +kernel
theorem dX9_text_57 : decode cX9_text 57 = .ok (.aload_n 0, 1) := by decide +kernel
theorem dX9_text_58 : decode cX9_text 58 = .ok (.getfield 9, 3) := by decide +kernel
theorem dX9_text_61 : decode cX9_text 61 = .ok (.iconst 3, 1) := by decide +kernel
theorem dX9_text_62 : decode cX9_text 62 = .ok (.iaload, 1) := by decide +kernel
theorem dX9_text_63 : decode cX9_text 63 = .ok (.if_icmp .ge 7, 3) := by decide +kernel
theorem dX9_text_66 : decode cX9_text 66 = .ok (.iconst 1, 1) := by decide +kernel
theorem dX9_text_67 : decode cX9_text 67 = .ok (.goto 4, 3) := by decide +kernel
theorem dX9_text_70 : decode cX9_text 70 = .ok (.iconst 0, 1) := by decide +kernel
theorem dX9_text_71 : decode cX9_text 71 = .ok (.putfield 88, 3) := by decide +kernel
theorem dX9_text_74 : decode cX9_text 74 = .ok (.aload_n 0, 1) := by decide +kernel
theorem dX9_text_75 : decode cX9_text 75 = .ok (.getfield 9, 3) := by decide +kernel
theorem dX9_text_78 : decode cX9_text 78 = .ok (.iconst 3, 1) := by decide +kernel
theorem dX9_text_79 : decode cX9_text 79 = .ok (.iconst 0, 1) := by decide +kernel
theorem dX9_text_80 : decode cX9_text 80 = .ok (.iastore, 1) := by decide +kernel
theorem dX9_text_81 : decode cX9_text 81 = .ok (.aload_n 0, 1) := by decide +kernel
theorem dX9_text_82 : decode cX9_text 82 = .ok (.getfield 88, 3) := by decide +kernel
theorem dX9_text_85 : decode cX9_text 85 = .ok (.ifCond .eq 11, 3) := by decide +kernel
theorem dX9_text_88 : decode cX9_text 88 = .ok (.bipush (-10), 2) := by decide +kernel
theorem dX9_text_90 : decode cX9_text 90 = .ok (.aload_n 0, 1) := by decide +kernel
theorem dX9_text_91 : decode cX9_text 91 = .ok (.getfield 92, 3) := by decide +kernel
theorem dX9_text_94 : decode cX9_text 94 = .ok (.isub, 1) := by decide +kernel
theorem dX9_text_95 : decode cX9_text 95 = .ok (.ireturn, 1) := by decide +kernel
theorem dX9_text_96 : decode cX9_text 96 = .ok (.aload_n 0, 1) := by decide +kernel
theorem dX9_text_97 : decode cX9_text 97 = .ok (.getfield 9, 3) := by decide +kernel
theorem dX9_text_100 : decode cX9_text 100 = .ok (.bipush 106, 2) := by decide +kernel
theorem dX9_text_102 : decode cX9_text 102 = .ok (.bipush 52, 2) := by decide +kernel
theorem dX9_text_104 : decode cX9_text 104 = .ok (.aload_n 0, 1) := by decide +kernel
theorem dX9_text_105 : decode cX9_text 105 = .ok (.getfield 126, 3) := by decide +kernel
theorem dX9_text_108 : decode cX9_text 108 = .ok (.imul, 1) := by decide +kernel
theorem dX9_text_109 : decode cX9_text 109 = .ok (.iadd, 1) := by decide +kernel
theorem dX9_text_110 : decode cX9_text 110 = .ok (.aload_n 0, 1) := by decide +kernel
theorem dX9_text_111 : decode cX9_text 111 = .ok (.getfield 100, 3) := by decide +kernel
theorem dX9_text_114 : decode cX9_text 114 = .ok (.iastore, 1) := by decide +kernel
theorem dX9_text_115 : decode cX9_text 115 = .ok (.iconst 0, 1) := by decide +kernel
theorem dX9_text_116 : decode cX9_text 116 = .ok (.istore_n 2, 1) := by decide +kernel
theorem dX9_text_117 : decode cX9_text 117 = .ok (.iload_n 2, 1) := by decide +kernel
theorem dX9_text_118 : decode cX9_text 118 = .ok (.aload_n 0, 1) := by decide +kernel
theorem dX9_text_119 : decode cX9_text 119 = .ok (.getfield 100, 3) := by decide +kernel
theorem dX9_text_122 : decode cX9_text 122 = .ok (.if_icmp .ge 34, 3) := by decide +kernel
theorem dX9_text_125 : decode cX9_text 125 = .ok (.aload_n 0, 1) := by decide +kernel
theorem dX9_text_126 : decode cX9_text 126 = .ok (.getfield 9, 3) := by decide +kernel
theorem dX9_text_129 : decode cX9_text 129 = .ok (.bipush 106, 2) := by decide +kernel
theorem dX9_text_131 : decode cX9_text 131 = .ok (.bipush 52, 2) := by decide +kernel
theorem dX9_text_133 : decode cX9_text 133 = .ok (.aload_n 0, 1) := by decide +kernel
theorem dX9_text_134 : decode cX9_text 134 = .ok (.getfield 126, 3) := by decide +kernel
theorem dX9_text_137 : decode cX9_text 137 = .ok (.imul, 1) := by decide +kernel
theorem dX9_text_138 : decode cX9_text 138 = .ok (.iadd, 1) := by decide +kernel
theorem dX9_text_139 : decode cX9_text 139 = .ok (.iconst 1, 1) := by decide +kernel
theorem dX9_text_140 : decode cX9_text 140 = .ok (.iadd, 1) := by decide +kernel
theorem dX9_text_141 : decode cX9_text 141 = .ok (.iload_n 2, 1) := by decide +kernel
theorem dX9_text_142 : decode cX9_text 142 = .ok (.iadd, 1) := by decide +kernel
theorem dX9_text_143 : decode cX9_text 143 = .ok (.aload_n 0, 1) := by decide +kernel
theorem dX9_text_144 : decode cX9_text 144 = .ok (.getfield 32, 3) := by decide +kernel
theorem dX9_text_147 : decode cX9_text 147 = .ok (.iload_n 2, 1) := by decide +kernel
theorem dX9_text_148 : decode cX9_text 148 = .ok (.iaload, 1) := by decide +kernel
theorem dX9_text_149 : decode cX9_text 149 = .ok (.iastore, 1) := by decide +kernel
theorem dX9_text_150 : decode cX9_text 150 = .ok (.iinc 2 1, 3) := by decide +kernel
theorem dX9_text_153 : decode cX9_text 153 = .ok (.goto (-36), 3) := by decide +kernel
theorem dX9_text_156 : decode cX9_text 156 = .ok (.iconst 1, 1) := by decide +kernel
theorem dX9_text_157 : decode cX9_text 157 = .ok (.ireturn, 1) := by decide +kernel
theorem dX9_done_0 : decode cX9_done 0 = .ok (.iload_n 0, 1) := by decide +kernel
theorem dX9_done_1 : decode cX9_done 1 = .ok (.tableswitch 136 20000 20008 #[51, 65, 79, 90, 101, 112, 116, 120, 124], 51) := by decide +kernel
theorem dX9_done_52 : decode cX9_done 52 = .ok (.iload_n 1, 1) := by decide +kernel
theorem dX9_done_53 : decode cX9_done 53 = .ok (.ifCond .ne 7, 3) := by decide +kernel
theorem dX9_done_56 : decode cX9_done 56 = .ok (.iload_n 2, 1) := by decide +kernel
theorem dX9_done_57 : decode cX9_done 57 = .ok (.ifCond .eq 7, 3) := by decide +kernel
theorem dX9_done_60 : decode cX9_done 60 = .ok (.iconst 1, 1) := by decide +kernel
theorem dX9_done_61 : decode cX9_done 61 = .ok (.goto 4, 3) := by decide +kernel
theorem dX9_done_64 : decode cX9_done 64 = .ok (.iconst 0, 1) := by decide +kernel
theorem dX9_done_65 : decode cX9_done 65 = .ok (.ireturn, 1) := by decide +kernel
theorem dX9_done_66 : decode cX9_done 66 = .ok (.iload_n 1, 1) := by decide +kernel
theorem dX9_done_67 : decode cX9_done 67 = .ok (.ifCond .eq 11, 3) := by decide +kernel
theorem dX9_done_70 : decode cX9_done 70 = .ok (.iload_n 2, 1) := by decide +kernel
theorem dX9_done_71 : decode cX9_done 71 = .ok (.ifCond .eq 7, 3) := by decide +kernel
theorem dX9_done_74 : decode cX9_done 74 = .ok (.iconst 1, 1) := by decide +kernel
theorem dX9_done_75 : decode cX9_done 75 = .ok (.goto 4, 3) := by decide +kernel
theorem dX9_done_78 : decode cX9_done 78 = .ok (.iconst 0, 1) := by decide +kernel
theorem dX9_done_79 : decode cX9_done 79 = .ok (.ireturn, 1) := by decide +kernel
theorem dX9_done_80 : decode cX9_done 80 = .ok (.iload_n 1, 1) := by decide +kernel
theorem dX9_done_81 : decode cX9_done 81 = .ok (.iload_n 2, 1) := by decide +kernel
theorem dX9_done_82 : decode cX9_done 82 = .ok (.if_icmp .ge 7, 3) := by decide +kernel
theorem dX9_done_85 : decode cX9_done 85 = .ok (.iconst 1, 1) := by decide +kernel
theorem dX9_done_86 : decode cX9_done 86 = .ok (.goto 4, 3) := by decide +kernel
theorem dX9_done_89 : decode cX9_done 89 = .ok (.iconst 0, 1) := by decide +kernel
theorem dX9_done_90 : decode cX9_done 90 = .ok (.ireturn, 1) := by decide +kernel
theorem dX9_done_91 : decode cX9_done 91 = .ok (.iload_n 1, 1) := by decide +kernel
theorem dX9_done_92 : decode cX9_done 92 = .ok (.iload_n 2, 1) := by decide +kernel
theorem dX9_done_93 : decode cX9_done 93 = .ok (.if_icmp .ne 7, 3) := by decide +kernel
theorem dX9_done_96 : decode cX9_done 96 = .ok (.iconst 1, 1) := by decide +kernel
theorem dX9_done_97 : decode cX9_done 97 = .ok (.goto 4, 3) := by decide +kernel
theorem dX9_done_100 : decode cX9_done 100 = .ok (.iconst 0, 1) := by decide +kernel
theorem dX9_done_101 : decode cX9_done 101 = .ok (.ireturn, 1) := by decide +kernel
theorem dX9_done_102 : decode cX9_done 102 = .ok (.iload_n 1, 1) := by decide +kernel
theorem dX9_done_103 : decode cX9_done 103 = .ok (.iload_n 2, 1) := by decide +kernel
theorem dX9_done_104 : decode cX9_done 104 = .ok (.if_icmp .le 7, 3) := by decide +kernel
theorem dX9_done_107 : decode cX9_done 107 = .ok (.iconst 1, 1) := by decide +kernel
theorem dX9_done_108 : decode cX9_done 108 = .ok (.goto 4, 3) := by decide +kernel
theorem dX9_done_111 : decode cX9_done 111 = .ok (.iconst 0, 1) := by decide +kernel
theorem dX9_done_112 : decode cX9_done 112 = .ok (.ireturn, 1) := by decide +kernel
theorem dX9_done_113 : decode cX9_done 113 = .ok (.iload_n 1, 1) := by decide +kernel
theorem dX9_done_114 : decode cX9_done 114 = .ok (.iload_n 2, 1) := by decide +kernel
theorem dX9_done_115 : decode cX9_done 115 = .ok (.iadd, 1) := by decide +kernel
theorem dX9_done_116 : decode cX9_done 116 = .ok (.ireturn, 1) := by decide +kernel
theorem dX9_done_117 : decode cX9_done 117 = .ok (.iload_n 1, 1) := by decide +kernel
theorem dX9_done_118 : decode cX9_done 118 = .ok (.iload_n 2, 1) := by decide +kernel
theorem dX9_done_119 : decode cX9_done 119 = .ok (.isub, 1) := by decide +kernel
theorem dX9_done_120 : decode cX9_done 120 = .ok (.ireturn, 1) := by decide +kernel
theorem dX9_done_121 : decode cX9_done 121 = .ok (.iload_n 1, 1) := by decide +kernel
theorem dX9_done_122 : decode cX9_done 122 = .ok (.iload_n 2, 1) := by decide +kernel
theorem dX9_done_123 : decode cX9_done 123 = .ok (.imul, 1) := by decide +kernel
theorem dX9_done_124 : decode cX9_done 124 = .ok (.ireturn, 1) := by decide +kernel
theorem dX9_done_125 : decode cX9_done 125 = .ok (.iload_n 2, 1) := by decide +kernel
theorem dX9_done_126 : decode cX9_done 126 = .ok (.ifCond .ne 7, 3) := by decide +kernel
theorem dX9_done_129 : decode cX9_done 129 = .ok (.iconst 0, 1) := by decide +kernel
theorem dX9_done_130 : decode cX9_done 130 = .ok (.goto 6, 3) := by decide +kernel
theorem dX9_done_133 : decode cX9_done 133 = .ok (.iload_n 1, 1) := by decide +kernel
theorem dX9_done_134 : decode cX9_done 134 = .ok (.iload_n 2, 1) := by decide +kernel
theorem dX9_done_135 : decode cX9_done 135 = .ok (.idiv, 1) := by decide +kernel
theorem dX9_done_136 : decode cX9_done 136 = .ok (.ireturn, 1) := by decide +kernel
theorem dX9_done_137 : decode cX9_done 137 = .ok (.iload_n 2, 1) := by decide +kernel
theorem dX9_done_138 : decode cX9_done 138 = .ok (.ifCond .ne 7, 3) := by decide +kernel
theorem dX9_done_141 : decode cX9_done 141 = .ok (.iconst 0, 1) := by decide +kernel
theorem dX9_done_142 : decode cX9_done 142 = .ok (.goto 6, 3) := by decide +kernel
theorem dX9_done_145 : decode cX9_done 145 = .ok (.iload_n 1, 1) := by decide +kernel
theorem dX9_done_146 : decode cX9_done 146 = .ok (.iload_n 2, 1) := by decide +kernel
theorem dX9_done_147 : decode cX9_done 147 = .ok (.irem, 1) := by decide +kernel
theorem dX9_done_148 : decode cX9_done 148 = .ok (.ireturn, 1) := by decide +kernel
theorem dX9_worked_0 : decode cX9_worked 0 = .ok (.iconst 0, 1) := by decide +kernel
theorem dX9_worked_1 : decode cX9_worked 1 = .ok (.istore_n 2, 1) := by decide +kernel
theorem dX9_worked_2 : decode cX9_worked 2 = .ok (.iload_n 1, 1) := by decide +kernel
theorem dX9_worked_3 : decode cX9_worked 3 = .ok (.istore_n 3, 1) := by decide +kernel
theorem dX9_worked_4 : decode cX9_worked 4 = .ok (.iload_n 3, 1) := by decide +kernel
theorem dX9_worked_5 : decode cX9_worked 5 = .ok (.iload_n 1, 1) := by decide +kernel
theorem dX9_worked_6 : decode cX9_worked 6 = .ok (.aload_n 0, 1) := by decide +kernel
theorem dX9_worked_7 : decode cX9_worked 7 = .ok (.getfield 9, 3) := by decide +kernel
theorem dX9_worked_10 : decode cX9_worked 10 = .ok (.iload_n 1, 1) := by decide +kernel
theorem dX9_worked_11 : decode cX9_worked 11 = .ok (.iconst 1, 1) := by decide +kernel
theorem dX9_worked_12 : decode cX9_worked 12 = .ok (.isub, 1) := by decide +kernel
theorem dX9_worked_13 : decode cX9_worked 13 = .ok (.iaload, 1) := by decide +kernel
theorem dX9_worked_14 : decode cX9_worked 14 = .ok (.iadd, 1) := by decide +kernel
theorem dX9_worked_15 : decode cX9_worked 15 = .ok (.if_icmp .ge 126, 3) := by decide +kernel
theorem dX9_worked_18 : decode cX9_worked 18 = .ok (.aload_n 0, 1) := by decide +kernel
theorem dX9_worked_19 : decode cX9_worked 19 = .ok (.getfield 9, 3) := by decide +kernel
theorem dX9_worked_22 : decode cX9_worked 22 = .ok (.iload_n 3, 1) := by decide +kernel
theorem dX9_worked_23 : decode cX9_worked 23 = .ok (.iaload, 1) := by decide +kernel
theorem dX9_worked_24 : decode cX9_worked 24 = .ok (.istore 4, 2) := by decide +kernel
theorem dX9_worked_26 : decode cX9_worked 26 = .ok (.iload 4, 2) := by decide +kernel
theorem dX9_worked_28 : decode cX9_worked 28 = .ok (.sipush 20000, 3) := by decide +kernel
theorem dX9_worked_31 : decode cX9_worked 31 = .ok (.if_icmp .ge 39, 3) := by decide +kernel
theorem dX9_worked_34 : decode cX9_worked 34 = .ok (.aload_n 0, 1) := by decide +kernel
theorem dX9_worked_35 : decode cX9_worked 35 = .ok (.getfield 38, 3) := by decide +kernel
theorem dX9_worked_38 : decode cX9_worked 38 = .ok (.iload_n 2, 1) := by decide +kernel
theorem dX9_worked_39 : decode cX9_worked 39 = .ok (.iload 4, 2) := by decide +kernel
theorem dX9_worked_41 : decode cX9_worked 41 = .ok (.sipush 10000, 3) := by decide +kernel
theorem dX9_worked_44 : decode cX9_worked 44 = .ok (.if_icmp .ge 8, 3) := by decide +kernel
theorem dX9_worked_47 : decode cX9_worked 47 = .ok (.iload 4, 2) := by decide +kernel
theorem dX9_worked_49 : decode cX9_worked 49 = .ok (.goto 14, 3) := by decide +kernel
theorem dX9_worked_52 : decode cX9_worked 52 = .ok (.aload_n 0, 1) := by decide +kernel
theorem dX9_worked_53 : decode cX9_worked 53 = .ok (.getfield 35, 3) := by decide +kernel
theorem dX9_worked_56 : decode cX9_worked 56 = .ok (.iload 4, 2) := by decide +kernel
theorem dX9_worked_58 : decode cX9_worked 58 = .ok (.sipush 10000, 3) := by decide +kernel
theorem dX9_worked_61 : decode cX9_worked 61 = .ok (.isub, 1) := by decide +kernel
theorem dX9_worked_62 : decode cX9_worked 62 = .ok (.iaload, 1) := by decide +kernel
theorem dX9_worked_63 : decode cX9_worked 63 = .ok (.iastore, 1) := by decide +kernel
theorem dX9_worked_64 : decode cX9_worked 64 = .ok (.iinc 2 1, 3) := by decide +kernel
theorem dX9_worked_67 : decode cX9_worked 67 = .ok (.goto 68, 3) := by decide +kernel
theorem dX9_worked_70 : decode cX9_worked 70 = .ok (.iload 4, 2) := by decide +kernel
theorem dX9_worked_72 : decode cX9_worked 72 = .ok (.sipush 20010, 3) := by decide +kernel
theorem dX9_worked_75 : decode cX9_worked 75 = .ok (.if_icmp .ne 30, 3) := by decide +kernel
theorem dX9_worked_78 : decode cX9_worked 78 = .ok (.aload_n 0, 1) := by decide +kernel
theorem dX9_worked_79 : decode cX9_worked 79 = .ok (.getfield 38, 3) := by decide +kernel
theorem dX9_worked_82 : decode cX9_worked 82 = .ok (.iload_n 2, 1) := by decide +kernel
theorem dX9_worked_83 : decode cX9_worked 83 = .ok (.iconst 1, 1) := by decide +kernel
theorem dX9_worked_84 : decode cX9_worked 84 = .ok (.isub, 1) := by decide +kernel
theorem dX9_worked_85 : decode cX9_worked 85 = .ok (.aload_n 0, 1) := by decide +kernel
theorem dX9_worked_86 : decode cX9_worked 86 = .ok (.getfield 38, 3) := by decide +kernel
theorem dX9_worked_89 : decode cX9_worked 89 = .ok (.iload_n 2, 1) := by decide +kernel
theorem dX9_worked_90 : decode cX9_worked 90 = .ok (.iconst 1, 1) := by decide +kernel
theorem dX9_worked_91 : decode cX9_worked 91 = .ok (.isub, 1) := by decide +kernel
theorem dX9_worked_92 : decode cX9_worked 92 = .ok (.iaload, 1) := by decide +kernel
theorem dX9_worked_93 : decode cX9_worked 93 = .ok (.ifCond .ne 7, 3) := by decide +kernel
theorem dX9_worked_96 : decode cX9_worked 96 = .ok (.iconst 1, 1) := by decide +kernel
theorem dX9_worked_97 : decode cX9_worked 97 = .ok (.goto 4, 3) := by decide +kernel
theorem dX9_worked_100 : decode cX9_worked 100 = .ok (.iconst 0, 1) := by decide +kernel
theorem dX9_worked_101 : decode cX9_worked 101 = .ok (.iastore, 1) := by decide +kernel
theorem dX9_worked_102 : decode cX9_worked 102 = .ok (.goto 33, 3) := by decide +kernel
theorem dX9_worked_105 : decode cX9_worked 105 = .ok (.iinc 2 (-1), 3) := by decide +kernel
theorem dX9_worked_108 : decode cX9_worked 108 = .ok (.aload_n 0, 1) := by decide +kernel
theorem dX9_worked_109 : decode cX9_worked 109 = .ok (.getfield 38, 3) := by decide +kernel
theorem dX9_worked_112 : decode cX9_worked 112 = .ok (.iload_n 2, 1) := by decide +kernel
theorem dX9_worked_113 : decode cX9_worked 113 = .ok (.iconst 1, 1) := by decide +kernel
theorem dX9_worked_114 : decode cX9_worked 114 = .ok (.isub, 1) := by decide +kernel
theorem dX9_worked_115 : decode cX9_worked 115 = .ok (.iload 4, 2) := by decide +kernel
theorem dX9_worked_117 : decode cX9_worked 117 = .ok (.aload_n 0, 1) := by decide +kernel
theorem dX9_worked_118 : decode cX9_worked 118 = .ok (.getfield 38, 3) := by decide +kernel
theorem dX9_worked_121 : decode cX9_worked 121 = .ok (.iload_n 2, 1) := by decide +kernel
theorem dX9_worked_122 : decode cX9_worked 122 = .ok (.iconst 1, 1) := by decide +kernel
theorem dX9_worked_123 : decode cX9_worked 123 = .ok (.isub, 1) := by decide +kernel
theorem dX9_worked_124 : decode cX9_worked 124 = .ok (.iaload, 1) := by decide +kernel
theorem dX9_worked_125 : decode cX9_worked 125 = .ok (.aload_n 0, 1) := by decide +kernel
theorem dX9_worked_126 : decode cX9_worked 126 = .ok (.getfield 38, 3) := by decide +kernel
theorem dX9_worked_129 : decode cX9_worked 129 = .ok (.iload_n 2, 1) := by decide +kernel
theorem dX9_worked_130 : decode cX9_worked 130 = .ok (.iaload, 1) := by decide +kernel
theorem dX9_worked_131 : decode cX9_worked 131 = .ok (.invokestatic 145, 3) := by decide +kernel
theorem dX9_worked_134 : decode cX9_worked 134 = .ok (.iastore, 1) := by decide +kernel
theorem dX9_worked_135 : decode cX9_worked 135 = .ok (.iinc 3 1, 3) := by decide +kernel
theorem dX9_worked_138 : decode cX9_worked 138 = .ok (.goto (-134), 3) := by decide +kernel
theorem dX9_worked_141 : decode cX9_worked 141 = .ok (.aload_n 0, 1) := by decide +kernel
theorem dX9_worked_142 : decode cX9_worked 142 = .ok (.getfield 38, 3) := by decide +kernel
theorem dX9_worked_145 : decode cX9_worked 145 = .ok (.iconst 0, 1) := by decide +kernel
theorem dX9_worked_146 : decode cX9_worked 146 = .ok (.iaload, 1) := by decide +kernel
theorem dX9_worked_147 : decode cX9_worked 147 = .ok (.ireturn, 1) := by decide +kernel
theorem dX9_hasText_0 : decode cX9_hasText 0 = .ok (.aload_n 0, 1) := by decide +kernel
theorem dX9_hasText_1 : decode cX9_hasText 1 = .ok (.getfield 9, 3) := by decide +kernel
theorem dX9_hasText_4 : decode cX9_hasText 4 = .ok (.bipush 106, 2) := by decide +kernel
theorem dX9_hasText_6 : decode cX9_hasText 6 = .ok (.bipush 52, 2) := by decide +kernel
theorem dX9_hasText_8 : decode cX9_hasText 8 = .ok (.iload_n 1, 1) := by decide +kernel
theorem dX9_hasText_9 : decode cX9_hasText 9 = .ok (.imul, 1) := by decide +kernel
theorem dX9_hasText_10 : decode cX9_hasText 10 = .ok (.iadd, 1) := by decide +kernel
theorem dX9_hasText_11 : decode cX9_hasText 11 = .ok (.iaload, 1) := by decide +kernel
theorem dX9_hasText_12 : decode cX9_hasText 12 = .ok (.ifCond .le 7, 3) := by decide +kernel
theorem dX9_hasText_15 : decode cX9_hasText 15 = .ok (.iconst 1, 1) := by decide +kernel
theorem dX9_hasText_16 : decode cX9_hasText 16 = .ok (.goto 4, 3) := by decide +kernel
theorem dX9_hasText_19 : decode cX9_hasText 19 = .ok (.iconst 0, 1) := by decide +kernel
theorem dX9_hasText_20 : decode cX9_hasText 20 = .ok (.ireturn, 1) := by decide +kernel
theorem dX9_given_0 : decode cX9_given 0 = .ok (.aload_n 0, 1) := by decide +kernel
theorem dX9_given_1 : decode cX9_given 1 = .ok (.getfield 35, 3) := by decide +kernel
theorem dX9_given_4 : decode cX9_given 4 = .ok (.iconst 0, 1) := by decide +kernel
theorem dX9_given_5 : decode cX9_given 5 = .ok (.iload_n 2, 1) := by decide +kernel
theorem dX9_given_6 : decode cX9_given 6 = .ok (.iastore, 1) := by decide +kernel
theorem dX9_given_7 : decode cX9_given 7 = .ok (.aload_n 0, 1) := by decide +kernel
theorem dX9_given_8 : decode cX9_given 8 = .ok (.getfield 35, 3) := by decide +kernel
theorem dX9_given_11 : decode cX9_given 11 = .ok (.iconst 1, 1) := by decide +kernel
theorem dX9_given_12 : decode cX9_given 12 = .ok (.iload_n 3, 1) := by decide +kernel
theorem dX9_given_13 : decode cX9_given 13 = .ok (.iastore, 1) := by decide +kernel
theorem dX9_given_14 : decode cX9_given 14 = .ok (.aload_n 0, 1) := by decide +kernel
theorem dX9_given_15 : decode cX9_given 15 = .ok (.getfield 35, 3) := by decide +kernel
theorem dX9_given_18 : decode cX9_given 18 = .ok (.iconst 2, 1) := by decide +kernel
theorem dX9_given_19 : decode cX9_given 19 = .ok (.iload 4, 2) := by decide +kernel
theorem dX9_given_21 : decode cX9_given 21 = .ok (.iastore, 1) := by decide +kernel
theorem dX9_given_22 : decode cX9_given 22 = .ok (.iload_n 1, 1) := by decide +kernel
theorem dX9_given_23 : decode cX9_given 23 = .ok (.ifCond .ne 22, 3) := by decide +kernel
theorem dX9_given_26 : decode cX9_given 26 = .ok (.aload_n 0, 1) := by decide +kernel
theorem dX9_given_27 : decode cX9_given 27 = .ok (.iconst 0, 1) := by decide +kernel
theorem dX9_given_28 : decode cX9_given 28 = .ok (.invokevirtual 149, 3) := by decide +kernel
theorem dX9_given_31 : decode cX9_given 31 = .ok (.ifCond .eq 12, 3) := by decide +kernel
theorem dX9_given_34 : decode cX9_given 34 = .ok (.aload_n 0, 1) := by decide +kernel
theorem dX9_given_35 : decode cX9_given 35 = .ok (.bipush 107, 2) := by decide +kernel
theorem dX9_given_37 : decode cX9_given 37 = .ok (.invokevirtual 152, 3) := by decide +kernel
theorem dX9_given_40 : decode cX9_given 40 = .ok (.goto 4, 3) := by decide +kernel
theorem dX9_given_43 : decode cX9_given 43 = .ok (.iconst 0, 1) := by decide +kernel
theorem dX9_given_44 : decode cX9_given 44 = .ok (.ireturn, 1) := by decide +kernel
theorem dX9_given_45 : decode cX9_given 45 = .ok (.aload_n 0, 1) := by decide +kernel
theorem dX9_given_46 : decode cX9_given 46 = .ok (.iconst 1, 1) := by decide +kernel
theorem dX9_given_47 : decode cX9_given 47 = .ok (.invokevirtual 149, 3) := by decide +kernel
theorem dX9_given_50 : decode cX9_given 50 = .ok (.ifCond .eq 13, 3) := by decide +kernel
theorem dX9_given_53 : decode cX9_given 53 = .ok (.aload_n 0, 1) := by decide +kernel
theorem dX9_given_54 : decode cX9_given 54 = .ok (.sipush 159, 3) := by decide +kernel
theorem dX9_given_57 : decode cX9_given 57 = .ok (.invokevirtual 152, 3) := by decide +kernel
theorem dX9_given_60 : decode cX9_given 60 = .ok (.goto 8, 3) := by decide +kernel
theorem dX9_given_63 : decode cX9_given 63 = .ok (.iconst 1, 1) := by decide +kernel
theorem dX9_given_64 : decode cX9_given 64 = .ok (.iload_n 3, 1) := by decide +kernel
theorem dX9_given_65 : decode cX9_given 65 = .ok (.iconst 4, 1) := by decide +kernel
theorem dX9_given_66 : decode cX9_given 66 = .ok (.idiv, 1) := by decide +kernel
theorem dX9_given_67 : decode cX9_given 67 = .ok (.iadd, 1) := by decide +kernel
theorem dX9_given_68 : decode cX9_given 68 = .ok (.iconst 0, 1) := by decide +kernel
theorem dX9_given_69 : decode cX9_given 69 = .ok (.bipush 99, 2) := by decide +kernel
theorem dX9_given_71 : decode cX9_given 71 = .ok (.invokestatic 155, 3) := by decide +kernel
theorem dX9_given_74 : decode cX9_given 74 = .ok (.ireturn, 1) := by decide +kernel
theorem dX9_law_0 : decode cX9_law 0 = .ok (.iload_n 1, 1) := by decide +kernel
theorem dX9_law_1 : decode cX9_law 1 = .ok (.iconst 0, 1) := by decide +kernel
theorem dX9_law_2 : decode cX9_law 2 = .ok (.iconst 1, 1) := by decide +kernel
theorem dX9_law_3 : decode cX9_law 3 = .ok (.invokestatic 76, 3) := by decide +kernel
theorem dX9_law_6 : decode cX9_law 6 = .ok (.ifCond .eq 15, 3) := by decide +kernel
theorem dX9_law_9 : decode cX9_law 9 = .ok (.aload_n 0, 1) := by decide +kernel
theorem dX9_law_10 : decode cX9_law 10 = .ok (.iload_n 1, 1) := by decide +kernel
theorem dX9_law_11 : decode cX9_law 11 = .ok (.iload_n 2, 1) := by decide +kernel
theorem dX9_law_12 : decode cX9_law 12 = .ok (.iload_n 3, 1) := by decide +kernel
theorem dX9_law_13 : decode cX9_law 13 = .ok (.iload 4, 2) := by decide +kernel
theorem dX9_law_15 : decode cX9_law 15 = .ok (.invokevirtual 158, 3) := by decide +kernel
theorem dX9_law_18 : decode cX9_law 18 = .ok (.goto 9, 3) := by decide +kernel
theorem dX9_law_21 : decode cX9_law 21 = .ok (.aload_n 0, 1) := by decide +kernel
theorem dX9_law_22 : decode cX9_law 22 = .ok (.ldc 80, 2) := by decide +kernel
theorem dX9_law_24 : decode cX9_law 24 = .ok (.invokevirtual 81, 3) := by decide +kernel
theorem dX9_law_27 : decode cX9_law 27 = .ok (.ireturn, 1) := by decide +kernel
theorem dX9_isCell_0 : decode cX9_isCell 0 = .ok (.iload_n 0, 1) := by decide +kernel
theorem dX9_isCell_1 : decode cX9_isCell 1 = .ok (.iconst 0, 1) := by decide +kernel
theorem dX9_isCell_2 : decode cX9_isCell 2 = .ok (.bipush 23, 2) := by decide +kernel
theorem dX9_isCell_4 : decode cX9_isCell 4 = .ok (.invokestatic 76, 3) := by decide +kernel
theorem dX9_isCell_7 : decode cX9_isCell 7 = .ok (.ireturn, 1) := by decide +kernel
theorem dX9_columnsLit_0 : decode cX9_columnsLit 0 = .ok (.iload_n 0, 1) := by decide +kernel
theorem dX9_columnsLit_1 : decode cX9_columnsLit 1 = .ok (.bipush 8, 2) := by decide +kernel
theorem dX9_columnsLit_3 : decode cX9_columnsLit 3 = .ok (.if_icmp .gt 18, 3) := by decide +kernel
theorem dX9_columnsLit_6 : decode cX9_columnsLit 6 = .ok (.sipush 255, 3) := by decide +kernel
theorem dX9_columnsLit_9 : decode cX9_columnsLit 9 = .ok (.bipush 8, 2) := by decide +kernel
theorem dX9_columnsLit_11 : decode cX9_columnsLit 11 = .ok (.iload_n 0, 1) := by decide +kernel
theorem dX9_columnsLit_12 : decode cX9_columnsLit 12 = .ok (.isub, 1) := by decide +kernel
theorem dX9_columnsLit_13 : decode cX9_columnsLit 13 = .ok (.ishl, 1) := by decide +kernel
theorem dX9_columnsLit_14 : decode cX9_columnsLit 14 = .ok (.sipush 255, 3) := by decide +kernel
theorem dX9_columnsLit_17 : decode cX9_columnsLit 17 = .ok (.iand, 1) := by decide +kernel
theorem dX9_columnsLit_18 : decode cX9_columnsLit 18 = .ok (.goto 11, 3) := by decide +kernel
theorem dX9_columnsLit_21 : decode cX9_columnsLit 21 = .ok (.iconst 1, 1) := by decide +kernel
theorem dX9_columnsLit_22 : decode cX9_columnsLit 22 = .ok (.bipush 16, 2) := by decide +kernel
theorem dX9_columnsLit_24 : decode cX9_columnsLit 24 = .ok (.iload_n 0, 1) := by decide +kernel
theorem dX9_columnsLit_25 : decode cX9_columnsLit 25 = .ok (.isub, 1) := by decide +kernel
theorem dX9_columnsLit_26 : decode cX9_columnsLit 26 = .ok (.ishl, 1) := by decide +kernel
theorem dX9_columnsLit_27 : decode cX9_columnsLit 27 = .ok (.iconst 1, 1) := by decide +kernel
theorem dX9_columnsLit_28 : decode cX9_columnsLit 28 = .ok (.isub, 1) := by decide +kernel
theorem dX9_columnsLit_29 : decode cX9_columnsLit 29 = .ok (.ireturn, 1) := by decide +kernel
theorem dX9_litBy_0 : decode cX9_litBy 0 = .ok (.iload_n 0, 1) := by decide +kernel
theorem dX9_litBy_1 : decode cX9_litBy 1 = .ok (.invokestatic 162, 3) := by decide +kernel
theorem dX9_litBy_4 : decode cX9_litBy 4 = .ok (.ldc 165, 2) := by decide +kernel
theorem dX9_litBy_6 : decode cX9_litBy 6 = .ok (.imul, 1) := by decide +kernel
theorem dX9_litBy_7 : decode cX9_litBy 7 = .ok (.ireturn, 1) := by decide +kernel
theorem dX9_phase_0 : decode cX9_phase 0 = .ok (.aload_n 0, 1) := by decide +kernel
theorem dX9_phase_1 : decode cX9_phase 1 = .ok (.getfield 9, 3) := by decide +kernel
theorem dX9_phase_4 : decode cX9_phase 4 = .ok (.iconst 0, 1) := by decide +kernel
theorem dX9_phase_5 : decode cX9_phase 5 = .ok (.iaload, 1) := by decide +kernel
theorem dX9_phase_6 : decode cX9_phase 6 = .ok (.bipush 16, 2) := by decide +kernel
theorem dX9_phase_8 : decode cX9_phase 8 = .ok (.irem, 1) := by decide +kernel
theorem dX9_phase_9 : decode cX9_phase 9 = .ok (.ireturn, 1) := by decide +kernel
theorem dX9_litNow_0 : decode cX9_litNow 0 = .ok (.aload_n 0, 1) := by decide +kernel
theorem dX9_litNow_1 : decode cX9_litNow 1 = .ok (.invokevirtual 166, 3) := by decide +kernel
theorem dX9_litNow_4 : decode cX9_litNow 4 = .ok (.invokestatic 169, 3) := by decide +kernel
theorem dX9_litNow_7 : decode cX9_litNow 7 = .ok (.ireturn, 1) := by decide +kernel
theorem dX9_isCloudy_0 : decode cX9_isCloudy 0 = .ok (.aload_n 0, 1) := by decide +kernel
theorem dX9_isCloudy_1 : decode cX9_isCloudy 1 = .ok (.iconst 0, 1) := by decide +kernel
theorem dX9_isCloudy_2 : decode cX9_isCloudy 2 = .ok (.aload_n 0, 1) := by decide +kernel
theorem dX9_isCloudy_3 : decode cX9_isCloudy 3 = .ok (.getfield 9, 3) := by decide +kernel
theorem dX9_isCloudy_6 : decode cX9_isCloudy 6 = .ok (.iconst 0, 1) := by decide +kernel
theorem dX9_isCloudy_7 : decode cX9_isCloudy 7 = .ok (.iaload, 1) := by decide +kernel
theorem dX9_isCloudy_8 : decode cX9_isCloudy 8 = .ok (.aload_n 0, 1) := by decide +kernel
theorem dX9_isCloudy_9 : decode cX9_isCloudy 9 = .ok (.invokevirtual 166, 3) := by decide +kernel
theorem dX9_isCloudy_12 : decode cX9_isCloudy 12 = .ok (.aload_n 0, 1) := by decide +kernel
theorem dX9_isCloudy_13 : decode cX9_isCloudy 13 = .ok (.getfield 9, 3) := by decide +kernel
theorem dX9_isCloudy_16 : decode cX9_isCloudy 16 = .ok (.iconst 2, 1) := by decide +kernel
theorem dX9_isCloudy_17 : decode cX9_isCloudy 17 = .ok (.iaload, 1) := by decide +kernel
theorem dX9_isCloudy_18 : decode cX9_isCloudy 18 = .ok (.invokevirtual 158, 3) := by decide +kernel
theorem dX9_isCloudy_21 : decode cX9_isCloudy 21 = .ok (.ifCond .eq 7, 3) := by decide +kernel
theorem dX9_isCloudy_24 : decode cX9_isCloudy 24 = .ok (.iconst 1, 1) := by decide +kernel
theorem dX9_isCloudy_25 : decode cX9_isCloudy 25 = .ok (.goto 4, 3) := by decide +kernel
theorem dX9_isCloudy_28 : decode cX9_isCloudy 28 = .ok (.iconst 0, 1) := by decide +kernel
theorem dX9_isCloudy_29 : decode cX9_isCloudy 29 = .ok (.ireturn, 1) := by decide +kernel
theorem dX9_seenNow_0 : decode cX9_seenNow 0 = .ok (.aload_n 0, 1) := by decide +kernel
theorem dX9_seenNow_1 : decode cX9_seenNow 1 = .ok (.invokevirtual 172, 3) := by decide +kernel
theorem dX9_seenNow_4 : decode cX9_seenNow 4 = .ok (.ifCond .eq 7, 3) := by decide +kernel
theorem dX9_seenNow_7 : decode cX9_seenNow 7 = .ok (.iconst 0, 1) := by decide +kernel
theorem dX9_seenNow_8 : decode cX9_seenNow 8 = .ok (.goto 7, 3) := by decide +kernel
theorem dX9_seenNow_11 : decode cX9_seenNow 11 = .ok (.aload_n 0, 1) := by decide +kernel
theorem dX9_seenNow_12 : decode cX9_seenNow 12 = .ok (.invokevirtual 176, 3) := by decide +kernel
theorem dX9_seenNow_15 : decode cX9_seenNow 15 = .ok (.ireturn, 1) := by decide +kernel
theorem dX9_holders_0 : decode cX9_holders 0 = .ok (.iconst 0, 1) := by decide +kernel
theorem dX9_holders_1 : decode cX9_holders 1 = .ok (.istore_n 2, 1) := by decide +kernel
theorem dX9_holders_2 : decode cX9_holders 2 = .ok (.iconst 0, 1) := by decide +kernel
theorem dX9_holders_3 : decode cX9_holders 3 = .ok (.istore_n 3, 1) := by decide +kernel
theorem dX9_holders_4 : decode cX9_holders 4 = .ok (.iload_n 3, 1) := by decide +kernel
theorem dX9_holders_5 : decode cX9_holders 5 = .ok (.aload_n 0, 1) := by decide +kernel
theorem dX9_holders_6 : decode cX9_holders 6 = .ok (.getfield 9, 3) := by decide +kernel
theorem dX9_holders_9 : decode cX9_holders 9 = .ok (.iconst 1, 1) := by decide +kernel
theorem dX9_holders_10 : decode cX9_holders 10 = .ok (.iaload, 1) := by decide +kernel
theorem dX9_holders_11 : decode cX9_holders 11 = .ok (.if_icmp .ge 32, 3) := by decide +kernel
theorem dX9_holders_14 : decode cX9_holders 14 = .ok (.iload_n 2, 1) := by decide +kernel
theorem dX9_holders_15 : decode cX9_holders 15 = .ok (.aload_n 0, 1) := by decide +kernel
theorem dX9_holders_16 : decode cX9_holders 16 = .ok (.iload_n 3, 1) := by decide +kernel
theorem dX9_holders_17 : decode cX9_holders 17 = .ok (.iconst 2, 1) := by decide +kernel
theorem dX9_holders_18 : decode cX9_holders 18 = .ok (.invokevirtual 179, 3) := by decide +kernel
theorem dX9_holders_21 : decode cX9_holders 21 = .ok (.iload_n 1, 1) := by decide +kernel
theorem dX9_holders_22 : decode cX9_holders 22 = .ok (.invokestatic 182, 3) := by decide +kernel
theorem dX9_holders_25 : decode cX9_holders 25 = .ok (.ifCond .eq 9, 3) := by decide +kernel
theorem dX9_holders_28 : decode cX9_holders 28 = .ok (.iconst 1, 1) := by decide +kernel
theorem dX9_holders_29 : decode cX9_holders 29 = .ok (.iload_n 3, 1) := by decide +kernel
theorem dX9_holders_30 : decode cX9_holders 30 = .ok (.ishl, 1) := by decide +kernel
theorem dX9_holders_31 : decode cX9_holders 31 = .ok (.goto 4, 3) := by decide +kernel
theorem dX9_holders_34 : decode cX9_holders 34 = .ok (.iconst 0, 1) := by decide +kernel
theorem dX9_holders_35 : decode cX9_holders 35 = .ok (.ior, 1) := by decide +kernel
theorem dX9_holders_36 : decode cX9_holders 36 = .ok (.istore_n 2, 1) := by decide +kernel
theorem dX9_holders_37 : decode cX9_holders 37 = .ok (.iinc 3 1, 3) := by decide +kernel
theorem dX9_holders_40 : decode cX9_holders 40 = .ok (.goto (-36), 3) := by decide +kernel
theorem dX9_holders_43 : decode cX9_holders 43 = .ok (.iload_n 2, 1) := by decide +kernel
theorem dX9_holders_44 : decode cX9_holders 44 = .ok (.ireturn, 1) := by decide +kernel
theorem dX9_rentOf_0 : decode cX9_rentOf 0 = .ok (.aload_n 0, 1) := by decide +kernel
theorem dX9_rentOf_1 : decode cX9_rentOf 1 = .ok (.iconst 1, 1) := by decide +kernel
theorem dX9_rentOf_2 : decode cX9_rentOf 2 = .ok (.iload_n 1, 1) := by decide +kernel
theorem dX9_rentOf_3 : decode cX9_rentOf 3 = .ok (.bipush 8, 2) := by decide +kernel
theorem dX9_rentOf_5 : decode cX9_rentOf 5 = .ok (.idiv, 1) := by decide +kernel
theorem dX9_rentOf_6 : decode cX9_rentOf 6 = .ok (.iload_n 1, 1) := by decide +kernel
theorem dX9_rentOf_7 : decode cX9_rentOf 7 = .ok (.bipush 8, 2) := by decide +kernel
theorem dX9_rentOf_9 : decode cX9_rentOf 9 = .ok (.irem, 1) := by decide +kernel
theorem dX9_rentOf_10 : decode cX9_rentOf 10 = .ok (.aload_n 0, 1) := by decide +kernel
theorem dX9_rentOf_11 : decode cX9_rentOf 11 = .ok (.iload_n 1, 1) := by decide +kernel
theorem dX9_rentOf_12 : decode cX9_rentOf 12 = .ok (.invokevirtual 186, 3) := by decide +kernel
theorem dX9_rentOf_15 : decode cX9_rentOf 15 = .ok (.invokestatic 189, 3) := by decide +kernel
theorem dX9_rentOf_18 : decode cX9_rentOf 18 = .ok (.invokevirtual 158, 3) := by decide +kernel
theorem dX9_rentOf_21 : decode cX9_rentOf 21 = .ok (.ireturn, 1) := by decide +kernel
theorem dX9_ofCell_0 : decode cX9_ofCell 0 = .ok (.iload_n 1, 1) := by decide +kernel
theorem dX9_ofCell_1 : decode cX9_ofCell 1 = .ok (.invokestatic 192, 3) := by decide +kernel
theorem dX9_ofCell_4 : decode cX9_ofCell 4 = .ok (.ifCond .eq 12, 3) := by decide +kernel
theorem dX9_ofCell_7 : decode cX9_ofCell 7 = .ok (.iload_n 2, 1) := by decide +kernel
theorem dX9_ofCell_8 : decode cX9_ofCell 8 = .ok (.iconst 0, 1) := by decide +kernel
theorem dX9_ofCell_9 : decode cX9_ofCell 9 = .ok (.iconst 3, 1) := by decide +kernel
theorem dX9_ofCell_10 : decode cX9_ofCell 10 = .ok (.invokestatic 76, 3) := by decide +kernel
theorem dX9_ofCell_13 : decode cX9_ofCell 13 = .ok (.ifCond .ne 10, 3) := by decide +kernel
theorem dX9_ofCell_16 : decode cX9_ofCell 16 = .ok (.aload_n 0, 1) := by decide +kernel
theorem dX9_ofCell_17 : decode cX9_ofCell 17 = .ok (.ldc 80, 2) := by decide +kernel
theorem dX9_ofCell_19 : decode cX9_ofCell 19 = .ok (.invokevirtual 81, 3) := by decide +kernel
theorem dX9_ofCell_22 : decode cX9_ofCell 22 = .ok (.ireturn, 1) := by decide +kernel
theorem dX9_ofCell_23 : decode cX9_ofCell 23 = .ok (.iload_n 2, 1) := by decide +kernel
theorem dX9_ofCell_24 : decode cX9_ofCell 24 = .ok (.tableswitch 52 0 2 #[28, 37, 46], 28) := by decide +kernel
theorem dX9_ofCell_52 : decode cX9_ofCell 52 = .ok (.aload_n 0, 1) := by decide +kernel
theorem dX9_ofCell_53 : decode cX9_ofCell 53 = .ok (.invokevirtual 176, 3) := by decide +kernel
theorem dX9_ofCell_56 : decode cX9_ofCell 56 = .ok (.iload_n 1, 1) := by decide +kernel
theorem dX9_ofCell_57 : decode cX9_ofCell 57 = .ok (.ishr, 1) := by decide +kernel
theorem dX9_ofCell_58 : decode cX9_ofCell 58 = .ok (.iconst 1, 1) := by decide +kernel
theorem dX9_ofCell_59 : decode cX9_ofCell 59 = .ok (.iand, 1) := by decide +kernel
theorem dX9_ofCell_60 : decode cX9_ofCell 60 = .ok (.ireturn, 1) := by decide +kernel
theorem dX9_ofCell_61 : decode cX9_ofCell 61 = .ok (.aload_n 0, 1) := by decide +kernel
theorem dX9_ofCell_62 : decode cX9_ofCell 62 = .ok (.invokevirtual 195, 3) := by decide +kernel
theorem dX9_ofCell_65 : decode cX9_ofCell 65 = .ok (.iload_n 1, 1) := by decide +kernel
theorem dX9_ofCell_66 : decode cX9_ofCell 66 = .ok (.ishr, 1) := by decide +kernel
theorem dX9_ofCell_67 : decode cX9_ofCell 67 = .ok (.iconst 1, 1) := by decide +kernel
theorem dX9_ofCell_68 : decode cX9_ofCell 68 = .ok (.iand, 1) := by decide +kernel
theorem dX9_ofCell_69 : decode cX9_ofCell 69 = .ok (.ireturn, 1) := by decide +kernel
theorem dX9_ofCell_70 : decode cX9_ofCell 70 = .ok (.aload_n 0, 1) := by decide +kernel
theorem dX9_ofCell_71 : decode cX9_ofCell 71 = .ok (.iload_n 1, 1) := by decide +kernel
theorem dX9_ofCell_72 : decode cX9_ofCell 72 = .ok (.invokevirtual 198, 3) := by decide +kernel
theorem dX9_ofCell_75 : decode cX9_ofCell 75 = .ok (.ireturn, 1) := by decide +kernel
theorem dX9_ofCell_76 : decode cX9_ofCell 76 = .ok (.aload_n 0, 1) := by decide +kernel
theorem dX9_ofCell_77 : decode cX9_ofCell 77 = .ok (.iload_n 1, 1) := by decide +kernel
theorem dX9_ofCell_78 : decode cX9_ofCell 78 = .ok (.invokevirtual 186, 3) := by decide +kernel
theorem dX9_ofCell_81 : decode cX9_ofCell 81 = .ok (.ireturn, 1) := by decide +kernel
theorem dX9_lit_0 : decode cX9_lit 0 = .ok (.iload_n 1, 1) := by decide +kernel
theorem dX9_lit_1 : decode cX9_lit 1 = .ok (.iconst 0, 1) := by decide +kernel
theorem dX9_lit_2 : decode cX9_lit 2 = .ok (.bipush 15, 2) := by decide +kernel
theorem dX9_lit_4 : decode cX9_lit 4 = .ok (.invokestatic 76, 3) := by decide +kernel
theorem dX9_lit_7 : decode cX9_lit 7 = .ok (.ifCond .eq 10, 3) := by decide +kernel
theorem dX9_lit_10 : decode cX9_lit 10 = .ok (.iload_n 1, 1) := by decide +kernel
theorem dX9_lit_11 : decode cX9_lit 11 = .ok (.invokestatic 169, 3) := by decide +kernel
theorem dX9_lit_14 : decode cX9_lit 14 = .ok (.goto 9, 3) := by decide +kernel
theorem dX9_lit_17 : decode cX9_lit 17 = .ok (.aload_n 0, 1) := by decide +kernel
theorem dX9_lit_18 : decode cX9_lit 18 = .ok (.ldc 80, 2) := by decide +kernel
theorem dX9_lit_20 : decode cX9_lit 20 = .ok (.invokevirtual 81, 3) := by decide +kernel
theorem dX9_lit_23 : decode cX9_lit 23 = .ok (.ireturn, 1) := by decide +kernel
theorem dX9_weather_0 : decode cX9_weather 0 = .ok (.iload_n 1, 1) := by decide +kernel
theorem dX9_weather_1 : decode cX9_weather 1 = .ok (.iconst 0, 1) := by decide +kernel
theorem dX9_weather_2 : decode cX9_weather 2 = .ok (.bipush 9, 2) := by decide +kernel
theorem dX9_weather_4 : decode cX9_weather 4 = .ok (.invokestatic 76, 3) := by decide +kernel
theorem dX9_weather_7 : decode cX9_weather 7 = .ok (.ifCond .eq 12, 3) := by decide +kernel
theorem dX9_weather_10 : decode cX9_weather 10 = .ok (.aload_n 0, 1) := by decide +kernel
theorem dX9_weather_11 : decode cX9_weather 11 = .ok (.iconst 2, 1) := by decide +kernel
theorem dX9_weather_12 : decode cX9_weather 12 = .ok (.iload_n 1, 1) := by decide +kernel
theorem dX9_weather_13 : decode cX9_weather 13 = .ok (.invokevirtual 201, 3) := by decide +kernel
theorem dX9_weather_16 : decode cX9_weather 16 = .ok (.goto 9, 3) := by decide +kernel
theorem dX9_weather_19 : decode cX9_weather 19 = .ok (.aload_n 0, 1) := by decide +kernel
theorem dX9_weather_20 : decode cX9_weather 20 = .ok (.ldc 80, 2) := by decide +kernel
theorem dX9_weather_22 : decode cX9_weather 22 = .ok (.invokevirtual 81, 3) := by decide +kernel
theorem dX9_weather_25 : decode cX9_weather 25 = .ok (.ireturn, 1) := by decide +kernel
theorem dX9_isTenant_0 : decode cX9_isTenant 0 = .ok (.iload_n 1, 1) := by decide +kernel
theorem dX9_isTenant_1 : decode cX9_isTenant 1 = .ok (.iconst 0, 1) := by decide +kernel
theorem dX9_isTenant_2 : decode cX9_isTenant 2 = .ok (.aload_n 0, 1) := by decide +kernel
theorem dX9_isTenant_3 : decode cX9_isTenant 3 = .ok (.getfield 9, 3) := by decide +kernel
theorem dX9_isTenant_6 : decode cX9_isTenant 6 = .ok (.iconst 1, 1) := by decide +kernel
theorem dX9_isTenant_7 : decode cX9_isTenant 7 = .ok (.iaload, 1) := by decide +kernel
theorem dX9_isTenant_8 : decode cX9_isTenant 8 = .ok (.iconst 1, 1) := by decide +kernel
theorem dX9_isTenant_9 : decode cX9_isTenant 9 = .ok (.isub, 1) := by decide +kernel
theorem dX9_isTenant_10 : decode cX9_isTenant 10 = .ok (.invokestatic 76, 3) := by decide +kernel
theorem dX9_isTenant_13 : decode cX9_isTenant 13 = .ok (.ireturn, 1) := by decide +kernel
theorem dX9_at_0 : decode cX9_at 0 = .ok (.bipush 6, 2) := by decide +kernel
theorem dX9_at_2 : decode cX9_at 2 = .ok (.iconst 5, 1) := by decide +kernel
theorem dX9_at_3 : decode cX9_at 3 = .ok (.iload_n 0, 1) := by decide +kernel
theorem dX9_at_4 : decode cX9_at 4 = .ok (.imul, 1) := by decide +kernel
theorem dX9_at_5 : decode cX9_at 5 = .ok (.iadd, 1) := by decide +kernel
theorem dX9_at_6 : decode cX9_at 6 = .ok (.iload_n 1, 1) := by decide +kernel
theorem dX9_at_7 : decode cX9_at 7 = .ok (.iadd, 1) := by decide +kernel
theorem dX9_at_8 : decode cX9_at 8 = .ok (.ireturn, 1) := by decide +kernel
theorem dX9_tenantIs_0 : decode cX9_tenantIs 0 = .ok (.aload_n 0, 1) := by decide +kernel
theorem dX9_tenantIs_1 : decode cX9_tenantIs 1 = .ok (.getfield 9, 3) := by decide +kernel
theorem dX9_tenantIs_4 : decode cX9_tenantIs 4 = .ok (.iload_n 1, 1) := by decide +kernel
theorem dX9_tenantIs_5 : decode cX9_tenantIs 5 = .ok (.iload_n 2, 1) := by decide +kernel
theorem dX9_tenantIs_6 : decode cX9_tenantIs 6 = .ok (.invokestatic 204, 3) := by decide +kernel
theorem dX9_tenantIs_9 : decode cX9_tenantIs 9 = .ok (.iaload, 1) := by decide +kernel
theorem dX9_tenantIs_10 : decode cX9_tenantIs 10 = .ok (.ireturn, 1) := by decide +kernel
theorem dX9_isOut_0 : decode cX9_isOut 0 = .ok (.aload_n 0, 1) := by decide +kernel
theorem dX9_isOut_1 : decode cX9_isOut 1 = .ok (.iload_n 1, 1) := by decide +kernel
theorem dX9_isOut_2 : decode cX9_isOut 2 = .ok (.iconst 4, 1) := by decide +kernel
theorem dX9_isOut_3 : decode cX9_isOut 3 = .ok (.invokevirtual 179, 3) := by decide +kernel
theorem dX9_isOut_6 : decode cX9_isOut 6 = .ok (.iconst 1, 1) := by decide +kernel
theorem dX9_isOut_7 : decode cX9_isOut 7 = .ok (.if_icmp .ne 7, 3) := by decide +kernel
theorem dX9_isOut_10 : decode cX9_isOut 10 = .ok (.iconst 1, 1) := by decide +kernel
theorem dX9_isOut_11 : decode cX9_isOut 11 = .ok (.goto 4, 3) := by decide +kernel
theorem dX9_isOut_14 : decode cX9_isOut 14 = .ok (.iconst 0, 1) := by decide +kernel
theorem dX9_isOut_15 : decode cX9_isOut 15 = .ok (.ireturn, 1) := by decide +kernel
theorem dX9_isKindM_0 : decode cX9_isKindM 0 = .ok (.iload_n 0, 1) := by decide +kernel
theorem dX9_isKindM_1 : decode cX9_isKindM 1 = .ok (.iconst 0, 1) := by decide +kernel
theorem dX9_isKindM_2 : decode cX9_isKindM 2 = .ok (.bipush 69, 2) := by decide +kernel
theorem dX9_isKindM_4 : decode cX9_isKindM 4 = .ok (.invokestatic 76, 3) := by decide +kernel
theorem dX9_isKindM_7 : decode cX9_isKindM 7 = .ok (.ireturn, 1) := by decide +kernel
theorem dX9_comes_0 : decode cX9_comes 0 = .ok (.aload_n 0, 1) := by decide +kernel
theorem dX9_comes_1 : decode cX9_comes 1 = .ok (.getfield 9, 3) := by decide +kernel
theorem dX9_comes_4 : decode cX9_comes 4 = .ok (.iconst 1, 1) := by decide +kernel
theorem dX9_comes_5 : decode cX9_comes 5 = .ok (.iaload, 1) := by decide +kernel
theorem dX9_comes_6 : decode cX9_comes 6 = .ok (.istore_n 2, 1) := by decide +kernel
theorem dX9_comes_7 : decode cX9_comes 7 = .ok (.aload_n 0, 1) := by decide +kernel
theorem dX9_comes_8 : decode cX9_comes 8 = .ok (.getfield 9, 3) := by decide +kernel
theorem dX9_comes_11 : decode cX9_comes 11 = .ok (.iload_n 2, 1) := by decide +kernel
theorem dX9_comes_12 : decode cX9_comes 12 = .ok (.iconst 0, 1) := by decide +kernel
theorem dX9_comes_13 : decode cX9_comes 13 = .ok (.invokestatic 204, 3) := by decide +kernel
theorem dX9_comes_16 : decode cX9_comes 16 = .ok (.iload_n 1, 1) := by decide +kernel
theorem dX9_comes_17 : decode cX9_comes 17 = .ok (.bipush 10, 2) := by decide +kernel
theorem dX9_comes_19 : decode cX9_comes 19 = .ok (.idiv, 1) := by decide +kernel
theorem dX9_comes_20 : decode cX9_comes 20 = .ok (.iastore, 1) := by decide +kernel
theorem dX9_comes_21 : decode cX9_comes 21 = .ok (.aload_n 0, 1) := by decide +kernel
theorem dX9_comes_22 : decode cX9_comes 22 = .ok (.getfield 9, 3) := by decide +kernel
theorem dX9_comes_25 : decode cX9_comes 25 = .ok (.iload_n 2, 1) := by decide +kernel
theorem dX9_comes_26 : decode cX9_comes 26 = .ok (.iconst 1, 1) := by decide +kernel
theorem dX9_comes_27 : decode cX9_comes 27 = .ok (.invokestatic 204, 3) := by decide +kernel
theorem dX9_comes_30 : decode cX9_comes 30 = .ok (.iload_n 1, 1) := by decide +kernel
theorem dX9_comes_31 : decode cX9_comes 31 = .ok (.bipush 10, 2) := by decide +kernel
theorem dX9_comes_33 : decode cX9_comes 33 = .ok (.irem, 1) := by decide +kernel
theorem dX9_comes_34 : decode cX9_comes 34 = .ok (.iastore, 1) := by decide +kernel
theorem dX9_comes_35 : decode cX9_comes 35 = .ok (.aload_n 0, 1) := by decide +kernel
theorem dX9_comes_36 : decode cX9_comes 36 = .ok (.getfield 9, 3) := by decide +kernel
theorem dX9_comes_39 : decode cX9_comes 39 = .ok (.iload_n 2, 1) := by decide +kernel
theorem dX9_comes_40 : decode cX9_comes 40 = .ok (.iconst 2, 1) := by decide +kernel
theorem dX9_comes_41 : decode cX9_comes 41 = .ok (.invokestatic 204, 3) := by decide +kernel
theorem dX9_comes_44 : decode cX9_comes 44 = .ok (.iconst 0, 1) := by decide +kernel
theorem dX9_comes_45 : decode cX9_comes 45 = .ok (.iastore, 1) := by decide +kernel
theorem dX9_comes_46 : decode cX9_comes 46 = .ok (.aload_n 0, 1) := by decide +kernel
theorem dX9_comes_47 : decode cX9_comes 47 = .ok (.getfield 9, 3) := by decide +kernel
theorem dX9_comes_50 : decode cX9_comes 50 = .ok (.iload_n 2, 1) := by decide +kernel
theorem dX9_comes_51 : decode cX9_comes 51 = .ok (.iconst 3, 1) := by decide +kernel
theorem dX9_comes_52 : decode cX9_comes 52 = .ok (.invokestatic 204, 3) := by decide +kernel
theorem dX9_comes_55 : decode cX9_comes 55 = .ok (.iconst 0, 1) := by decide +kernel
theorem dX9_comes_56 : decode cX9_comes 56 = .ok (.iastore, 1) := by decide +kernel
theorem dX9_comes_57 : decode cX9_comes 57 = .ok (.aload_n 0, 1) := by decide +kernel
theorem dX9_comes_58 : decode cX9_comes 58 = .ok (.getfield 9, 3) := by decide +kernel
theorem dX9_comes_61 : decode cX9_comes 61 = .ok (.iload_n 2, 1) := by decide +kernel
theorem dX9_comes_62 : decode cX9_comes 62 = .ok (.iconst 4, 1) := by decide +kernel
theorem dX9_comes_63 : decode cX9_comes 63 = .ok (.invokestatic 204, 3) := by decide +kernel
theorem dX9_comes_66 : decode cX9_comes 66 = .ok (.iconst 0, 1) := by decide +kernel
theorem dX9_comes_67 : decode cX9_comes 67 = .ok (.iastore, 1) := by decide +kernel
theorem dX9_comes_68 : decode cX9_comes 68 = .ok (.aload_n 0, 1) := by decide +kernel
theorem dX9_comes_69 : decode cX9_comes 69 = .ok (.getfield 9, 3) := by decide +kernel
theorem dX9_comes_72 : decode cX9_comes 72 = .ok (.iconst 1, 1) := by decide +kernel
theorem dX9_comes_73 : decode cX9_comes 73 = .ok (.dup2, 1) := by decide +kernel
theorem dX9_comes_74 : decode cX9_comes 74 = .ok (.iaload, 1) := by decide +kernel
theorem dX9_comes_75 : decode cX9_comes 75 = .ok (.iconst 1, 1) := by decide +kernel
theorem dX9_comes_76 : decode cX9_comes 76 = .ok (.iadd, 1) := by decide +kernel
theorem dX9_comes_77 : decode cX9_comes 77 = .ok (.iastore, 1) := by decide +kernel
theorem dX9_comes_78 : decode cX9_comes 78 = .ok (.iload_n 2, 1) := by decide +kernel
theorem dX9_comes_79 : decode cX9_comes 79 = .ok (.ireturn, 1) := by decide +kernel
theorem dX9_tenant_0 : decode cX9_tenant 0 = .ok (.iload_n 1, 1) := by decide +kernel
theorem dX9_tenant_1 : decode cX9_tenant 1 = .ok (.invokestatic 206, 3) := by decide +kernel
theorem dX9_tenant_4 : decode cX9_tenant 4 = .ok (.ifCond .ne 10, 3) := by decide +kernel
theorem dX9_tenant_7 : decode cX9_tenant 7 = .ok (.aload_n 0, 1) := by decide +kernel
theorem dX9_tenant_8 : decode cX9_tenant 8 = .ok (.ldc 80, 2) := by decide +kernel
theorem dX9_tenant_10 : decode cX9_tenant 10 = .ok (.invokevirtual 81, 3) := by decide +kernel
theorem dX9_tenant_13 : decode cX9_tenant 13 = .ok (.ireturn, 1) := by decide +kernel
theorem dX9_tenant_14 : decode cX9_tenant 14 = .ok (.aload_n 0, 1) := by decide +kernel
theorem dX9_tenant_15 : decode cX9_tenant 15 = .ok (.getfield 9, 3) := by decide +kernel
theorem dX9_tenant_18 : decode cX9_tenant 18 = .ok (.iconst 1, 1) := by decide +kernel
theorem dX9_tenant_19 : decode cX9_tenant 19 = .ok (.iaload, 1) := by decide +kernel
theorem dX9_tenant_20 : decode cX9_tenant 20 = .ok (.bipush 6, 2) := by decide +kernel
theorem dX9_tenant_22 : decode cX9_tenant 22 = .ok (.if_icmp .ne 12, 3) := by decide +kernel
theorem dX9_tenant_25 : decode cX9_tenant 25 = .ok (.aload_n 0, 1) := by decide +kernel
theorem dX9_tenant_26 : decode cX9_tenant 26 = .ok (.ldc 85, 2) := by decide +kernel
theorem dX9_tenant_28 : decode cX9_tenant 28 = .ok (.invokevirtual 81, 3) := by decide +kernel
theorem dX9_tenant_31 : decode cX9_tenant 31 = .ok (.goto 8, 3) := by decide +kernel
theorem dX9_tenant_34 : decode cX9_tenant 34 = .ok (.aload_n 0, 1) := by decide +kernel
theorem dX9_tenant_35 : decode cX9_tenant 35 = .ok (.iload_n 1, 1) := by decide +kernel
theorem dX9_tenant_36 : decode cX9_tenant 36 = .ok (.invokevirtual 209, 3) := by decide +kernel
theorem dX9_tenant_39 : decode cX9_tenant 39 = .ok (.ireturn, 1) := by decide +kernel
theorem dX9_above_0 : decode cX9_above 0 = .ok (.iload_n 0, 1) := by decide +kernel
theorem dX9_above_1 : decode cX9_above 1 = .ok (.ifCond .ne 7, 3) := by decide +kernel
theorem dX9_above_4 : decode cX9_above 4 = .ok (.iconst (-1), 1) := by decide +kernel
theorem dX9_above_5 : decode cX9_above 5 = .ok (.goto 32, 3) := by decide +kernel
theorem dX9_above_8 : decode cX9_above 8 = .ok (.iload_n 0, 1) := by decide +kernel
theorem dX9_above_9 : decode cX9_above 9 = .ok (.iconst 4, 1) := by decide +kernel
theorem dX9_above_10 : decode cX9_above 10 = .ok (.if_icmp .ne 7, 3) := by decide +kernel
theorem dX9_above_13 : decode cX9_above 13 = .ok (.iconst 1, 1) := by decide +kernel
theorem dX9_above_14 : decode cX9_above 14 = .ok (.goto 23, 3) := by decide +kernel
theorem dX9_above_17 : decode cX9_above 17 = .ok (.iload_n 0, 1) := by decide +kernel
theorem dX9_above_18 : decode cX9_above 18 = .ok (.iconst 5, 1) := by decide +kernel
theorem dX9_above_19 : decode cX9_above 19 = .ok (.if_icmp .ne 7, 3) := by decide +kernel
theorem dX9_above_22 : decode cX9_above 22 = .ok (.iconst 2, 1) := by decide +kernel
theorem dX9_above_23 : decode cX9_above 23 = .ok (.goto 14, 3) := by decide +kernel
theorem dX9_above_26 : decode cX9_above 26 = .ok (.iload_n 0, 1) := by decide +kernel
theorem dX9_above_27 : decode cX9_above 27 = .ok (.bipush 6, 2) := by decide +kernel
theorem dX9_above_29 : decode cX9_above 29 = .ok (.if_icmp .ne 7, 3) := by decide +kernel
theorem dX9_above_32 : decode cX9_above 32 = .ok (.iconst 3, 1) := by decide +kernel
theorem dX9_above_33 : decode cX9_above 33 = .ok (.goto 4, 3) := by decide +kernel
theorem dX9_above_36 : decode cX9_above 36 = .ok (.iconst 0, 1) := by decide +kernel
theorem dX9_above_37 : decode cX9_above 37 = .ok (.ireturn, 1) := by decide +kernel
theorem dX9_isUnder_0 : decode cX9_isUnder 0 = .ok (.iload_n 0, 1) := by decide +kernel
theorem dX9_isUnder_1 : decode cX9_isUnder 1 = .ok (.istore_n 2, 1) := by decide +kernel
theorem dX9_isUnder_2 : decode cX9_isUnder 2 = .ok (.iload_n 2, 1) := by decide +kernel
theorem dX9_isUnder_3 : decode cX9_isUnder 3 = .ok (.ifCond .lt 16, 3) := by decide +kernel
theorem dX9_isUnder_6 : decode cX9_isUnder 6 = .ok (.iload_n 2, 1) := by decide +kernel
theorem dX9_isUnder_7 : decode cX9_isUnder 7 = .ok (.iload_n 1, 1) := by decide +kernel
theorem dX9_isUnder_8 : decode cX9_isUnder 8 = .ok (.if_icmp .eq 11, 3) := by decide +kernel
theorem dX9_isUnder_11 : decode cX9_isUnder 11 = .ok (.iload_n 2, 1) := by decide +kernel
theorem dX9_isUnder_12 : decode cX9_isUnder 12 = .ok (.invokestatic 212, 3) := by decide +kernel
theorem dX9_isUnder_15 : decode cX9_isUnder 15 = .ok (.istore_n 2, 1) := by decide +kernel
theorem dX9_isUnder_16 : decode cX9_isUnder 16 = .ok (.goto (-14), 3) := by decide +kernel
theorem dX9_isUnder_19 : decode cX9_isUnder 19 = .ok (.iload_n 2, 1) := by decide +kernel
theorem dX9_isUnder_20 : decode cX9_isUnder 20 = .ok (.ifCond .lt 7, 3) := by decide +kernel
theorem dX9_isUnder_23 : decode cX9_isUnder 23 = .ok (.iconst 1, 1) := by decide +kernel
theorem dX9_isUnder_24 : decode cX9_isUnder 24 = .ok (.goto 4, 3) := by decide +kernel
theorem dX9_isUnder_27 : decode cX9_isUnder 27 = .ok (.iconst 0, 1) := by decide +kernel
theorem dX9_isUnder_28 : decode cX9_isUnder 28 = .ok (.ireturn, 1) := by decide +kernel
theorem dX9_isOf_0 : decode cX9_isOf 0 = .ok (.aload_n 0, 1) := by decide +kernel
theorem dX9_isOf_1 : decode cX9_isOf 1 = .ok (.iload_n 1, 1) := by decide +kernel
theorem dX9_isOf_2 : decode cX9_isOf 2 = .ok (.iconst 0, 1) := by decide +kernel
theorem dX9_isOf_3 : decode cX9_isOf 3 = .ok (.invokevirtual 179, 3) := by decide +kernel
theorem dX9_isOf_6 : decode cX9_isOf 6 = .ok (.iload_n 2, 1) := by decide +kernel
theorem dX9_isOf_7 : decode cX9_isOf 7 = .ok (.invokestatic 215, 3) := by decide +kernel
theorem dX9_isOf_10 : decode cX9_isOf 10 = .ok (.ireturn, 1) := by decide +kernel
theorem dX9_looks_0 : decode cX9_looks 0 = .ok (.aload_n 0, 1) := by decide +kernel
theorem dX9_looks_1 : decode cX9_looks 1 = .ok (.iload_n 1, 1) := by decide +kernel
theorem dX9_looks_2 : decode cX9_looks 2 = .ok (.iconst 1, 1) := by decide +kernel
theorem dX9_looks_3 : decode cX9_looks 3 = .ok (.invokevirtual 179, 3) := by decide +kernel
theorem dX9_looks_6 : decode cX9_looks 6 = .ok (.istore_n 2, 1) := by decide +kernel
theorem dX9_looks_7 : decode cX9_looks 7 = .ok (.aload_n 0, 1) := by decide +kernel
theorem dX9_looks_8 : decode cX9_looks 8 = .ok (.iload_n 1, 1) := by decide +kernel
theorem dX9_looks_9 : decode cX9_looks 9 = .ok (.iconst 0, 1) := by decide +kernel
theorem dX9_looks_10 : decode cX9_looks 10 = .ok (.invokevirtual 179, 3) := by decide +kernel
theorem dX9_looks_13 : decode cX9_looks 13 = .ok (.iconst 5, 1) := by decide +kernel
theorem dX9_looks_14 : decode cX9_looks 14 = .ok (.if_icmp .ne 5, 3) := by decide +kernel
theorem dX9_looks_17 : decode cX9_looks 17 = .ok (.iconst 0, 1) := by decide +kernel
theorem dX9_looks_18 : decode cX9_looks 18 = .ok (.ireturn, 1) := by decide +kernel
theorem dX9_looks_19 : decode cX9_looks 19 = .ok (.aload_n 0, 1) := by decide +kernel
theorem dX9_looks_20 : decode cX9_looks 20 = .ok (.iload_n 1, 1) := by decide +kernel
theorem dX9_looks_21 : decode cX9_looks 21 = .ok (.iconst 1, 1) := by decide +kernel
theorem dX9_looks_22 : decode cX9_looks 22 = .ok (.invokevirtual 218, 3) := by decide +kernel
theorem dX9_looks_25 : decode cX9_looks 25 = .ok (.ifCond .eq 26, 3) := by decide +kernel
theorem dX9_looks_28 : decode cX9_looks 28 = .ok (.iload_n 2, 1) := by decide +kernel
theorem dX9_looks_29 : decode cX9_looks 29 = .ok (.iconst 2, 1) := by decide +kernel
theorem dX9_looks_30 : decode cX9_looks 30 = .ok (.if_icmp .gt 15, 3) := by decide +kernel
theorem dX9_looks_33 : decode cX9_looks 33 = .ok (.aload_n 0, 1) := by decide +kernel
theorem dX9_looks_34 : decode cX9_looks 34 = .ok (.getfield 9, 3) := by decide +kernel
theorem dX9_looks_37 : decode cX9_looks 37 = .ok (.iconst 0, 1) := by decide +kernel
theorem dX9_looks_38 : decode cX9_looks 38 = .ok (.iaload, 1) := by decide +kernel
theorem dX9_looks_39 : decode cX9_looks 39 = .ok (.iconst 3, 1) := by decide +kernel
theorem dX9_looks_40 : decode cX9_looks 40 = .ok (.irem, 1) := by decide +kernel
theorem dX9_looks_41 : decode cX9_looks 41 = .ok (.iload_n 2, 1) := by decide +kernel
theorem dX9_looks_42 : decode cX9_looks 42 = .ok (.if_icmp .ne 7, 3) := by decide +kernel
theorem dX9_looks_45 : decode cX9_looks 45 = .ok (.iconst 1, 1) := by decide +kernel
theorem dX9_looks_46 : decode cX9_looks 46 = .ok (.goto 4, 3) := by decide +kernel
theorem dX9_looks_49 : decode cX9_looks 49 = .ok (.iconst 0, 1) := by decide +kernel
theorem dX9_looks_50 : decode cX9_looks 50 = .ok (.ireturn, 1) := by decide +kernel
theorem dX9_looks_51 : decode cX9_looks 51 = .ok (.aload_n 0, 1) := by decide +kernel
theorem dX9_looks_52 : decode cX9_looks 52 = .ok (.iload_n 1, 1) := by decide +kernel
theorem dX9_looks_53 : decode cX9_looks 53 = .ok (.iconst 2, 1) := by decide +kernel
theorem dX9_looks_54 : decode cX9_looks 54 = .ok (.invokevirtual 218, 3) := by decide +kernel
theorem dX9_looks_57 : decode cX9_looks 57 = .ok (.ifCond .eq 23, 3) := by decide +kernel
theorem dX9_looks_60 : decode cX9_looks 60 = .ok (.aload_n 0, 1) := by decide +kernel
theorem dX9_looks_61 : decode cX9_looks 61 = .ok (.iload_n 1, 1) := by decide +kernel
theorem dX9_looks_62 : decode cX9_looks 62 = .ok (.iconst 2, 1) := by decide +kernel
theorem dX9_looks_63 : decode cX9_looks 63 = .ok (.invokevirtual 179, 3) := by decide +kernel
theorem dX9_looks_66 : decode cX9_looks 66 = .ok (.aload_n 0, 1) := by decide +kernel
theorem dX9_looks_67 : decode cX9_looks 67 = .ok (.invokevirtual 176, 3) := by decide +kernel
theorem dX9_looks_70 : decode cX9_looks 70 = .ok (.iand, 1) := by decide +kernel
theorem dX9_looks_71 : decode cX9_looks 71 = .ok (.ifCond .eq 7, 3) := by decide +kernel
theorem dX9_looks_74 : decode cX9_looks 74 = .ok (.iconst 1, 1) := by decide +kernel
theorem dX9_looks_75 : decode cX9_looks 75 = .ok (.goto 4, 3) := by decide +kernel
theorem dX9_looks_78 : decode cX9_looks 78 = .ok (.iconst 0, 1) := by decide +kernel
theorem dX9_looks_79 : decode cX9_looks 79 = .ok (.ireturn, 1) := by decide +kernel
theorem dX9_looks_80 : decode cX9_looks 80 = .ok (.aload_n 0, 1) := by decide +kernel
theorem dX9_looks_81 : decode cX9_looks 81 = .ok (.iload_n 1, 1) := by decide +kernel
theorem dX9_looks_82 : decode cX9_looks 82 = .ok (.iconst 3, 1) := by decide +kernel
theorem dX9_looks_83 : decode cX9_looks 83 = .ok (.invokevirtual 218, 3) := by decide +kernel
theorem dX9_looks_86 : decode cX9_looks 86 = .ok (.ifCond .eq 14, 3) := by decide +kernel
theorem dX9_looks_89 : decode cX9_looks 89 = .ok (.aload_n 0, 1) := by decide +kernel
theorem dX9_looks_90 : decode cX9_looks 90 = .ok (.getfield 9, 3) := by decide +kernel
theorem dX9_looks_93 : decode cX9_looks 93 = .ok (.iconst 0, 1) := by decide +kernel
theorem dX9_looks_94 : decode cX9_looks 94 = .ok (.iaload, 1) := by decide +kernel
theorem dX9_looks_95 : decode cX9_looks 95 = .ok (.iconst 2, 1) := by decide +kernel
theorem dX9_looks_96 : decode cX9_looks 96 = .ok (.irem, 1) := by decide +kernel
theorem dX9_looks_97 : decode cX9_looks 97 = .ok (.ifCond .ne 7, 3) := by decide +kernel
theorem dX9_looks_100 : decode cX9_looks 100 = .ok (.iconst 1, 1) := by decide +kernel
theorem dX9_looks_101 : decode cX9_looks 101 = .ok (.goto 4, 3) := by decide +kernel
theorem dX9_looks_104 : decode cX9_looks 104 = .ok (.iconst 0, 1) := by decide +kernel
theorem dX9_looks_105 : decode cX9_looks 105 = .ok (.ireturn, 1) := by decide +kernel
theorem dX9_othersIn_0 : decode cX9_othersIn 0 = .ok (.iconst 0, 1) := by decide +kernel
theorem dX9_othersIn_1 : decode cX9_othersIn 1 = .ok (.istore_n 2, 1) := by decide +kernel
theorem dX9_othersIn_2 : decode cX9_othersIn 2 = .ok (.iconst 0, 1) := by decide +kernel
theorem dX9_othersIn_3 : decode cX9_othersIn 3 = .ok (.istore_n 3, 1) := by decide +kernel
theorem dX9_othersIn_4 : decode cX9_othersIn 4 = .ok (.iload_n 3, 1) := by decide +kernel
theorem dX9_othersIn_5 : decode cX9_othersIn 5 = .ok (.aload_n 0, 1) := by decide +kernel
theorem dX9_othersIn_6 : decode cX9_othersIn 6 = .ok (.getfield 9, 3) := by decide +kernel
theorem dX9_othersIn_9 : decode cX9_othersIn 9 = .ok (.iconst 1, 1) := by decide +kernel
theorem dX9_othersIn_10 : decode cX9_othersIn 10 = .ok (.iaload, 1) := by decide +kernel
theorem dX9_othersIn_11 : decode cX9_othersIn 11 = .ok (.if_icmp .ge 38, 3) := by decide +kernel
theorem dX9_othersIn_14 : decode cX9_othersIn 14 = .ok (.iload_n 2, 1) := by decide +kernel
theorem dX9_othersIn_15 : decode cX9_othersIn 15 = .ok (.iload_n 3, 1) := by decide +kernel
theorem dX9_othersIn_16 : decode cX9_othersIn 16 = .ok (.iload_n 1, 1) := by decide +kernel
theorem dX9_othersIn_17 : decode cX9_othersIn 17 = .ok (.if_icmp .eq 23, 3) := by decide +kernel
theorem dX9_othersIn_20 : decode cX9_othersIn 20 = .ok (.aload_n 0, 1) := by decide +kernel
theorem dX9_othersIn_21 : decode cX9_othersIn 21 = .ok (.iload_n 3, 1) := by decide +kernel
theorem dX9_othersIn_22 : decode cX9_othersIn 22 = .ok (.iconst 2, 1) := by decide +kernel
theorem dX9_othersIn_23 : decode cX9_othersIn 23 = .ok (.invokevirtual 179, 3) := by decide +kernel
theorem dX9_othersIn_26 : decode cX9_othersIn 26 = .ok (.aload_n 0, 1) := by decide +kernel
theorem dX9_othersIn_27 : decode cX9_othersIn 27 = .ok (.iload_n 1, 1) := by decide +kernel
theorem dX9_othersIn_28 : decode cX9_othersIn 28 = .ok (.iconst 2, 1) := by decide +kernel
theorem dX9_othersIn_29 : decode cX9_othersIn 29 = .ok (.invokevirtual 179, 3) := by decide +kernel
theorem dX9_othersIn_32 : decode cX9_othersIn 32 = .ok (.iand, 1) := by decide +kernel
theorem dX9_othersIn_33 : decode cX9_othersIn 33 = .ok (.ifCond .eq 7, 3) := by decide +kernel
theorem dX9_othersIn_36 : decode cX9_othersIn 36 = .ok (.iconst 1, 1) := by decide +kernel
theorem dX9_othersIn_37 : decode cX9_othersIn 37 = .ok (.goto 4, 3) := by decide +kernel
theorem dX9_othersIn_40 : decode cX9_othersIn 40 = .ok (.iconst 0, 1) := by decide +kernel
theorem dX9_othersIn_41 : decode cX9_othersIn 41 = .ok (.iadd, 1) := by decide +kernel
theorem dX9_othersIn_42 : decode cX9_othersIn 42 = .ok (.istore_n 2, 1) := by decide +kernel
theorem dX9_othersIn_43 : decode cX9_othersIn 43 = .ok (.iinc 3 1, 3) := by decide +kernel
theorem dX9_othersIn_46 : decode cX9_othersIn 46 = .ok (.goto (-42), 3) := by decide +kernel
theorem dX9_othersIn_49 : decode cX9_othersIn 49 = .ok (.iload_n 2, 1) := by decide +kernel
theorem dX9_othersIn_50 : decode cX9_othersIn 50 = .ok (.ireturn, 1) := by decide +kernel
theorem dX9_owes_0 : decode cX9_owes 0 = .ok (.iconst 0, 1) := by decide +kernel
theorem dX9_owes_1 : decode cX9_owes 1 = .ok (.istore_n 2, 1) := by decide +kernel
theorem dX9_owes_2 : decode cX9_owes 2 = .ok (.iconst 0, 1) := by decide +kernel
theorem dX9_owes_3 : decode cX9_owes 3 = .ok (.istore_n 3, 1) := by decide +kernel
theorem dX9_owes_4 : decode cX9_owes 4 = .ok (.iload_n 3, 1) := by decide +kernel
theorem dX9_owes_5 : decode cX9_owes 5 = .ok (.bipush 24, 2) := by decide +kernel
theorem dX9_owes_7 : decode cX9_owes 7 = .ok (.if_icmp .ge 34, 3) := by decide +kernel
theorem dX9_owes_10 : decode cX9_owes 10 = .ok (.iload_n 2, 1) := by decide +kernel
theorem dX9_owes_11 : decode cX9_owes 11 = .ok (.aload_n 0, 1) := by decide +kernel
theorem dX9_owes_12 : decode cX9_owes 12 = .ok (.iload_n 1, 1) := by decide +kernel
theorem dX9_owes_13 : decode cX9_owes 13 = .ok (.iconst 2, 1) := by decide +kernel
theorem dX9_owes_14 : decode cX9_owes 14 = .ok (.invokevirtual 179, 3) := by decide +kernel
theorem dX9_owes_17 : decode cX9_owes 17 = .ok (.iload_n 3, 1) := by decide +kernel
theorem dX9_owes_18 : decode cX9_owes 18 = .ok (.invokestatic 182, 3) := by decide +kernel
theorem dX9_owes_21 : decode cX9_owes 21 = .ok (.ifCond .eq 11, 3) := by decide +kernel
theorem dX9_owes_24 : decode cX9_owes 24 = .ok (.aload_n 0, 1) := by decide +kernel
theorem dX9_owes_25 : decode cX9_owes 25 = .ok (.iload_n 3, 1) := by decide +kernel
theorem dX9_owes_26 : decode cX9_owes 26 = .ok (.invokevirtual 198, 3) := by decide +kernel
theorem dX9_owes_29 : decode cX9_owes 29 = .ok (.goto 4, 3) := by decide +kernel
theorem dX9_owes_32 : decode cX9_owes 32 = .ok (.iconst 0, 1) := by decide +kernel
theorem dX9_owes_33 : decode cX9_owes 33 = .ok (.iadd, 1) := by decide +kernel
theorem dX9_owes_34 : decode cX9_owes 34 = .ok (.istore_n 2, 1) := by decide +kernel
theorem dX9_owes_35 : decode cX9_owes 35 = .ok (.iinc 3 1, 3) := by decide +kernel
theorem dX9_owes_38 : decode cX9_owes 38 = .ok (.goto (-34), 3) := by decide +kernel
theorem dX9_owes_41 : decode cX9_owes 41 = .ok (.aload_n 0, 1) := by decide +kernel
theorem dX9_owes_42 : decode cX9_owes 42 = .ok (.iload_n 1, 1) := by decide +kernel
theorem dX9_owes_43 : decode cX9_owes 43 = .ok (.iconst 1, 1) := by decide +kernel
theorem dX9_owes_44 : decode cX9_owes 44 = .ok (.invokevirtual 179, 3) := by decide +kernel
theorem dX9_owes_47 : decode cX9_owes 47 = .ok (.istore_n 3, 1) := by decide +kernel
theorem dX9_owes_48 : decode cX9_owes 48 = .ok (.aload_n 0, 1) := by decide +kernel
theorem dX9_owes_49 : decode cX9_owes 49 = .ok (.iload_n 1, 1) := by decide +kernel
theorem dX9_owes_50 : decode cX9_owes 50 = .ok (.iconst 0, 1) := by decide +kernel
theorem dX9_owes_51 : decode cX9_owes 51 = .ok (.invokevirtual 179, 3) := by decide +kernel
theorem dX9_owes_54 : decode cX9_owes 54 = .ok (.tableswitch 78 1 6 #[38, 54, 58, 42, 54, 65], 38) := by decide +kernel
theorem dX9_owes_92 : decode cX9_owes 92 = .ok (.iload_n 2, 1) := by decide +kernel
theorem dX9_owes_93 : decode cX9_owes 93 = .ok (.iconst 2, 1) := by decide +kernel
theorem dX9_owes_94 : decode cX9_owes 94 = .ok (.idiv, 1) := by decide +kernel
theorem dX9_owes_95 : decode cX9_owes 95 = .ok (.ireturn, 1) := by decide +kernel
theorem dX9_owes_96 : decode cX9_owes 96 = .ok (.iload_n 2, 1) := by decide +kernel
theorem dX9_owes_97 : decode cX9_owes 97 = .ok (.iconst 2, 1) := by decide +kernel
theorem dX9_owes_98 : decode cX9_owes 98 = .ok (.idiv, 1) := by decide +kernel
theorem dX9_owes_99 : decode cX9_owes 99 = .ok (.iconst 1, 1) := by decide +kernel
theorem dX9_owes_100 : decode cX9_owes 100 = .ok (.aload_n 0, 1) := by decide +kernel
theorem dX9_owes_101 : decode cX9_owes 101 = .ok (.iload_n 1, 1) := by decide +kernel
theorem dX9_owes_102 : decode cX9_owes 102 = .ok (.invokevirtual 221, 3) := by decide +kernel
theorem dX9_owes_105 : decode cX9_owes 105 = .ok (.iadd, 1) := by decide +kernel
theorem dX9_owes_106 : decode cX9_owes 106 = .ok (.idiv, 1) := by decide +kernel
theorem dX9_owes_107 : decode cX9_owes 107 = .ok (.ireturn, 1) := by decide +kernel
theorem dX9_owes_108 : decode cX9_owes 108 = .ok (.iload_n 2, 1) := by decide +kernel
theorem dX9_owes_109 : decode cX9_owes 109 = .ok (.iload_n 3, 1) := by decide +kernel
theorem dX9_owes_110 : decode cX9_owes 110 = .ok (.iadd, 1) := by decide +kernel
theorem dX9_owes_111 : decode cX9_owes 111 = .ok (.ireturn, 1) := by decide +kernel
theorem dX9_owes_112 : decode cX9_owes 112 = .ok (.iload_n 2, 1) := by decide +kernel
theorem dX9_owes_113 : decode cX9_owes 113 = .ok (.iload_n 2, 1) := by decide +kernel
theorem dX9_owes_114 : decode cX9_owes 114 = .ok (.bipush 10, 2) := by decide +kernel
theorem dX9_owes_116 : decode cX9_owes 116 = .ok (.idiv, 1) := by decide +kernel
theorem dX9_owes_117 : decode cX9_owes 117 = .ok (.isub, 1) := by decide +kernel
theorem dX9_owes_118 : decode cX9_owes 118 = .ok (.ireturn, 1) := by decide +kernel
theorem dX9_owes_119 : decode cX9_owes 119 = .ok (.iconst 0, 1) := by decide +kernel
theorem dX9_owes_120 : decode cX9_owes 120 = .ok (.iload_n 2, 1) := by decide +kernel
theorem dX9_owes_121 : decode cX9_owes 121 = .ok (.iload_n 2, 1) := by decide +kernel
theorem dX9_owes_122 : decode cX9_owes 122 = .ok (.bipush 10, 2) := by decide +kernel
theorem dX9_owes_124 : decode cX9_owes 124 = .ok (.idiv, 1) := by decide +kernel
theorem dX9_owes_125 : decode cX9_owes 125 = .ok (.isub, 1) := by decide +kernel
theorem dX9_owes_126 : decode cX9_owes 126 = .ok (.iload_n 3, 1) := by decide +kernel
theorem dX9_owes_127 : decode cX9_owes 127 = .ok (.isub, 1) := by decide +kernel
theorem dX9_owes_128 : decode cX9_owes 128 = .ok (.invokestatic 69, 3) := by decide +kernel
theorem dX9_owes_131 : decode cX9_owes 131 = .ok (.ireturn, 1) := by decide +kernel
theorem dX9_owes_132 : decode cX9_owes 132 = .ok (.iload_n 2, 1) := by decide +kernel
theorem dX9_owes_133 : decode cX9_owes 133 = .ok (.ireturn, 1) := by decide +kernel
theorem dX9_earns_0 : decode cX9_earns 0 = .ok (.aload_n 0, 1) := by decide +kernel
theorem dX9_earns_1 : decode cX9_earns 1 = .ok (.iload_n 1, 1) := by decide +kernel
theorem dX9_earns_2 : decode cX9_earns 2 = .ok (.iconst 2, 1) := by decide +kernel
theorem dX9_earns_3 : decode cX9_earns 3 = .ok (.invokevirtual 179, 3) := by decide +kernel
theorem dX9_earns_6 : decode cX9_earns 6 = .ok (.aload_n 0, 1) := by decide +kernel
theorem dX9_earns_7 : decode cX9_earns 7 = .ok (.invokevirtual 195, 3) := by decide +kernel
theorem dX9_earns_10 : decode cX9_earns 10 = .ok (.iand, 1) := by decide +kernel
theorem dX9_earns_11 : decode cX9_earns 11 = .ok (.istore_n 2, 1) := by decide +kernel
theorem dX9_earns_12 : decode cX9_earns 12 = .ok (.iload_n 2, 1) := by decide +kernel
theorem dX9_earns_13 : decode cX9_earns 13 = .ok (.ifCond .eq 11, 3) := by decide +kernel
theorem dX9_earns_16 : decode cX9_earns 16 = .ok (.aload_n 0, 1) := by decide +kernel
theorem dX9_earns_17 : decode cX9_earns 17 = .ok (.iload_n 1, 1) := by decide +kernel
theorem dX9_earns_18 : decode cX9_earns 18 = .ok (.invokevirtual 224, 3) := by decide +kernel
theorem dX9_earns_21 : decode cX9_earns 21 = .ok (.ifCond .ne 5, 3) := by decide +kernel
theorem dX9_earns_24 : decode cX9_earns 24 = .ok (.iconst 0, 1) := by decide +kernel
theorem dX9_earns_25 : decode cX9_earns 25 = .ok (.ireturn, 1) := by decide +kernel
theorem dX9_earns_26 : decode cX9_earns 26 = .ok (.aload_n 0, 1) := by decide +kernel
theorem dX9_earns_27 : decode cX9_earns 27 = .ok (.iload_n 1, 1) := by decide +kernel
theorem dX9_earns_28 : decode cX9_earns 28 = .ok (.iconst 1, 1) := by decide +kernel
theorem dX9_earns_29 : decode cX9_earns 29 = .ok (.invokevirtual 218, 3) := by decide +kernel
theorem dX9_earns_32 : decode cX9_earns 32 = .ok (.ifCond .eq 8, 3) := by decide +kernel
theorem dX9_earns_35 : decode cX9_earns 35 = .ok (.bipush 9, 2) := by decide +kernel
theorem dX9_earns_37 : decode cX9_earns 37 = .ok (.goto 22, 3) := by decide +kernel
theorem dX9_earns_40 : decode cX9_earns 40 = .ok (.aload_n 0, 1) := by decide +kernel
theorem dX9_earns_41 : decode cX9_earns 41 = .ok (.iload_n 1, 1) := by decide +kernel
theorem dX9_earns_42 : decode cX9_earns 42 = .ok (.iconst 3, 1) := by decide +kernel
theorem dX9_earns_43 : decode cX9_earns 43 = .ok (.invokevirtual 218, 3) := by decide +kernel
theorem dX9_earns_46 : decode cX9_earns 46 = .ok (.ifCond .eq 12, 3) := by decide +kernel
theorem dX9_earns_49 : decode cX9_earns 49 = .ok (.iconst 2, 1) := by decide +kernel
theorem dX9_earns_50 : decode cX9_earns 50 = .ok (.iload_n 2, 1) := by decide +kernel
theorem dX9_earns_51 : decode cX9_earns 51 = .ok (.invokestatic 189, 3) := by decide +kernel
theorem dX9_earns_54 : decode cX9_earns 54 = .ok (.imul, 1) := by decide +kernel
theorem dX9_earns_55 : decode cX9_earns 55 = .ok (.goto 4, 3) := by decide +kernel
theorem dX9_earns_58 : decode cX9_earns 58 = .ok (.iconst 5, 1) := by decide +kernel
theorem dX9_earns_59 : decode cX9_earns 59 = .ok (.ireturn, 1) := by decide +kernel
theorem dX9_ofTenant_0 : decode cX9_ofTenant 0 = .ok (.aload_n 0, 1) := by decide +kernel
theorem dX9_ofTenant_1 : decode cX9_ofTenant 1 = .ok (.iload_n 1, 1) := by decide +kernel
theorem dX9_ofTenant_2 : decode cX9_ofTenant 2 = .ok (.invokevirtual 227, 3) := by decide +kernel
theorem dX9_ofTenant_5 : decode cX9_ofTenant 5 = .ok (.ifCond .eq 13, 3) := by decide +kernel
theorem dX9_ofTenant_8 : decode cX9_ofTenant 8 = .ok (.iload_n 2, 1) := by decide +kernel
theorem dX9_ofTenant_9 : decode cX9_ofTenant 9 = .ok (.iconst 0, 1) := by decide +kernel
theorem dX9_ofTenant_10 : decode cX9_ofTenant 10 = .ok (.bipush 7, 2) := by decide +kernel
theorem dX9_ofTenant_12 : decode cX9_ofTenant 12 = .ok (.invokestatic 76, 3) := by decide +kernel
theorem dX9_ofTenant_15 : decode cX9_ofTenant 15 = .ok (.ifCond .ne 10, 3) := by decide +kernel
theorem dX9_ofTenant_18 : decode cX9_ofTenant 18 = .ok (.aload_n 0, 1) := by decide +kernel
theorem dX9_ofTenant_19 : decode cX9_ofTenant 19 = .ok (.ldc 80, 2) := by decide +kernel
theorem dX9_ofTenant_21 : decode cX9_ofTenant 21 = .ok (.invokevirtual 81, 3) := by decide +kernel
theorem dX9_ofTenant_24 : decode cX9_ofTenant 24 = .ok (.ireturn, 1) := by decide +kernel
theorem dX9_ofTenant_25 : decode cX9_ofTenant 25 = .ok (.iload_n 2, 1) := by decide +kernel
theorem dX9_ofTenant_26 : decode cX9_ofTenant 26 = .ok (.tableswitch 76 3 7 #[34, 76, 44, 58, 70], 34) := by decide +kernel
theorem dX9_ofTenant_60 : decode cX9_ofTenant 60 = .ok (.aload_n 0, 1) := by decide +kernel
theorem dX9_ofTenant_61 : decode cX9_ofTenant 61 = .ok (.iload_n 1, 1) := by decide +kernel
theorem dX9_ofTenant_62 : decode cX9_ofTenant 62 = .ok (.iconst 3, 1) := by decide +kernel
theorem dX9_ofTenant_63 : decode cX9_ofTenant 63 = .ok (.invokevirtual 179, 3) := by decide +kernel
theorem dX9_ofTenant_66 : decode cX9_ofTenant 66 = .ok (.ldc 230, 2) := by decide +kernel
theorem dX9_ofTenant_68 : decode cX9_ofTenant 68 = .ok (.iadd, 1) := by decide +kernel
theorem dX9_ofTenant_69 : decode cX9_ofTenant 69 = .ok (.ireturn, 1) := by decide +kernel
theorem dX9_ofTenant_70 : decode cX9_ofTenant 70 = .ok (.aload_n 0, 1) := by decide +kernel
theorem dX9_ofTenant_71 : decode cX9_ofTenant 71 = .ok (.iload_n 1, 1) := by decide +kernel
theorem dX9_ofTenant_72 : decode cX9_ofTenant 72 = .ok (.invokevirtual 224, 3) := by decide +kernel
theorem dX9_ofTenant_75 : decode cX9_ofTenant 75 = .ok (.ifCond .eq 7, 3) := by decide +kernel
theorem dX9_ofTenant_78 : decode cX9_ofTenant 78 = .ok (.iconst 1, 1) := by decide +kernel
theorem dX9_ofTenant_79 : decode cX9_ofTenant 79 = .ok (.goto 4, 3) := by decide +kernel
theorem dX9_ofTenant_82 : decode cX9_ofTenant 82 = .ok (.iconst 0, 1) := by decide +kernel
theorem dX9_ofTenant_83 : decode cX9_ofTenant 83 = .ok (.ireturn, 1) := by decide +kernel
theorem dX9_ofTenant_84 : decode cX9_ofTenant 84 = .ok (.aload_n 0, 1) := by decide +kernel
theorem dX9_ofTenant_85 : decode cX9_ofTenant 85 = .ok (.iload_n 1, 1) := by decide +kernel
theorem dX9_ofTenant_86 : decode cX9_ofTenant 86 = .ok (.iconst 2, 1) := by decide +kernel
theorem dX9_ofTenant_87 : decode cX9_ofTenant 87 = .ok (.invokevirtual 179, 3) := by decide +kernel
theorem dX9_ofTenant_90 : decode cX9_ofTenant 90 = .ok (.aload_n 0, 1) := by decide +kernel
theorem dX9_ofTenant_91 : decode cX9_ofTenant 91 = .ok (.invokevirtual 195, 3) := by decide +kernel
theorem dX9_ofTenant_94 : decode cX9_ofTenant 94 = .ok (.iand, 1) := by decide +kernel
theorem dX9_ofTenant_95 : decode cX9_ofTenant 95 = .ok (.ireturn, 1) := by decide +kernel
theorem dX9_ofTenant_96 : decode cX9_ofTenant 96 = .ok (.aload_n 0, 1) := by decide +kernel
theorem dX9_ofTenant_97 : decode cX9_ofTenant 97 = .ok (.iload_n 1, 1) := by decide +kernel
theorem dX9_ofTenant_98 : decode cX9_ofTenant 98 = .ok (.invokevirtual 231, 3) := by decide +kernel
theorem dX9_ofTenant_101 : decode cX9_ofTenant 101 = .ok (.ireturn, 1) := by decide +kernel
theorem dX9_ofTenant_102 : decode cX9_ofTenant 102 = .ok (.aload_n 0, 1) := by decide +kernel
theorem dX9_ofTenant_103 : decode cX9_ofTenant 103 = .ok (.iload_n 1, 1) := by decide +kernel
theorem dX9_ofTenant_104 : decode cX9_ofTenant 104 = .ok (.iload_n 2, 1) := by decide +kernel
theorem dX9_ofTenant_105 : decode cX9_ofTenant 105 = .ok (.invokevirtual 179, 3) := by decide +kernel
theorem dX9_ofTenant_108 : decode cX9_ofTenant 108 = .ok (.ireturn, 1) := by decide +kernel
theorem dX9_become_0 : decode cX9_become 0 = .ok (.aload_n 0, 1) := by decide +kernel
theorem dX9_become_1 : decode cX9_become 1 = .ok (.iload_n 1, 1) := by decide +kernel
theorem dX9_become_2 : decode cX9_become 2 = .ok (.invokevirtual 227, 3) := by decide +kernel
theorem dX9_become_5 : decode cX9_become 5 = .ok (.ifCond .eq 10, 3) := by decide +kernel
theorem dX9_become_8 : decode cX9_become 8 = .ok (.iload_n 2, 1) := by decide +kernel
theorem dX9_become_9 : decode cX9_become 9 = .ok (.invokestatic 206, 3) := by decide +kernel
theorem dX9_become_12 : decode cX9_become 12 = .ok (.ifCond .ne 10, 3) := by decide +kernel
theorem dX9_become_15 : decode cX9_become 15 = .ok (.aload_n 0, 1) := by decide +kernel
theorem dX9_become_16 : decode cX9_become 16 = .ok (.ldc 80, 2) := by decide +kernel
theorem dX9_become_18 : decode cX9_become 18 = .ok (.invokevirtual 81, 3) := by decide +kernel
theorem dX9_become_21 : decode cX9_become 21 = .ok (.ireturn, 1) := by decide +kernel
theorem dX9_become_22 : decode cX9_become 22 = .ok (.aload_n 0, 1) := by decide +kernel
theorem dX9_become_23 : decode cX9_become 23 = .ok (.getfield 9, 3) := by decide +kernel
theorem dX9_become_26 : decode cX9_become 26 = .ok (.iload_n 1, 1) := by decide +kernel
theorem dX9_become_27 : decode cX9_become 27 = .ok (.iconst 1, 1) := by decide +kernel
theorem dX9_become_28 : decode cX9_become 28 = .ok (.invokestatic 204, 3) := by decide +kernel
theorem dX9_become_31 : decode cX9_become 31 = .ok (.iload_n 2, 1) := by decide +kernel
theorem dX9_become_32 : decode cX9_become 32 = .ok (.bipush 10, 2) := by decide +kernel
theorem dX9_become_34 : decode cX9_become 34 = .ok (.irem, 1) := by decide +kernel
theorem dX9_become_35 : decode cX9_become 35 = .ok (.iastore, 1) := by decide +kernel
theorem dX9_become_36 : decode cX9_become 36 = .ok (.aload_n 0, 1) := by decide +kernel
theorem dX9_become_37 : decode cX9_become 37 = .ok (.iload_n 1, 1) := by decide +kernel
theorem dX9_become_38 : decode cX9_become 38 = .ok (.iconst 0, 1) := by decide +kernel
theorem dX9_become_39 : decode cX9_become 39 = .ok (.invokestatic 204, 3) := by decide +kernel
theorem dX9_become_42 : decode cX9_become 42 = .ok (.iload_n 2, 1) := by decide +kernel
theorem dX9_become_43 : decode cX9_become 43 = .ok (.bipush 10, 2) := by decide +kernel
theorem dX9_become_45 : decode cX9_become 45 = .ok (.idiv, 1) := by decide +kernel
theorem dX9_become_46 : decode cX9_become 46 = .ok (.invokevirtual 201, 3) := by decide +kernel
theorem dX9_become_49 : decode cX9_become 49 = .ok (.ireturn, 1) := by decide +kernel
theorem dX9_as_0 : decode cX9_as 0 = .ok (.aload_n 0, 1) := by decide +kernel
theorem dX9_as_1 : decode cX9_as 1 = .ok (.iload_n 1, 1) := by decide +kernel
theorem dX9_as_2 : decode cX9_as 2 = .ok (.invokevirtual 227, 3) := by decide +kernel
theorem dX9_as_5 : decode cX9_as 5 = .ok (.ifCond .eq 13, 3) := by decide +kernel
theorem dX9_as_8 : decode cX9_as 8 = .ok (.iload_n 2, 1) := by decide +kernel
theorem dX9_as_9 : decode cX9_as 9 = .ok (.iconst 0, 1) := by decide +kernel
theorem dX9_as_10 : decode cX9_as 10 = .ok (.bipush 6, 2) := by decide +kernel
theorem dX9_as_12 : decode cX9_as 12 = .ok (.invokestatic 76, 3) := by decide +kernel
theorem dX9_as_15 : decode cX9_as 15 = .ok (.ifCond .ne 10, 3) := by decide +kernel
theorem dX9_as_18 : decode cX9_as 18 = .ok (.aload_n 0, 1) := by decide +kernel
theorem dX9_as_19 : decode cX9_as 19 = .ok (.ldc 80, 2) := by decide +kernel
theorem dX9_as_21 : decode cX9_as 21 = .ok (.invokevirtual 81, 3) := by decide +kernel
theorem dX9_as_24 : decode cX9_as 24 = .ok (.ireturn, 1) := by decide +kernel
theorem dX9_as_25 : decode cX9_as 25 = .ok (.aload_n 0, 1) := by decide +kernel
theorem dX9_as_26 : decode cX9_as 26 = .ok (.iload_n 1, 1) := by decide +kernel
theorem dX9_as_27 : decode cX9_as 27 = .ok (.iload_n 2, 1) := by decide +kernel
theorem dX9_as_28 : decode cX9_as 28 = .ok (.invokevirtual 218, 3) := by decide +kernel
theorem dX9_as_31 : decode cX9_as 31 = .ok (.ifCond .eq 12, 3) := by decide +kernel
theorem dX9_as_34 : decode cX9_as 34 = .ok (.aload_n 0, 1) := by decide +kernel
theorem dX9_as_35 : decode cX9_as 35 = .ok (.iload_n 1, 1) := by decide +kernel
theorem dX9_as_36 : decode cX9_as 36 = .ok (.iconst 1, 1) := by decide +kernel
theorem dX9_as_37 : decode cX9_as 37 = .ok (.invokevirtual 179, 3) := by decide +kernel
theorem dX9_as_40 : decode cX9_as 40 = .ok (.goto 9, 3) := by decide +kernel
theorem dX9_as_43 : decode cX9_as 43 = .ok (.aload_n 0, 1) := by decide +kernel
theorem dX9_as_44 : decode cX9_as 44 = .ok (.ldc 234, 2) := by decide +kernel
theorem dX9_as_46 : decode cX9_as 46 = .ok (.invokevirtual 81, 3) := by decide +kernel
theorem dX9_as_49 : decode cX9_as 49 = .ok (.ireturn, 1) := by decide +kernel
theorem dX9_isSet_0 : decode cX9_isSet 0 = .ok (.iload_n 0, 1) := by decide +kernel
theorem dX9_isSet_1 : decode cX9_isSet 1 = .ok (.iconst 0, 1) := by decide +kernel
theorem dX9_isSet_2 : decode cX9_isSet 2 = .ok (.ldc 235, 2) := by decide +kernel
theorem dX9_isSet_4 : decode cX9_isSet 4 = .ok (.invokestatic 76, 3) := by decide +kernel
theorem dX9_isSet_7 : decode cX9_isSet 7 = .ok (.ireturn, 1) := by decide +kernel
theorem dX9_lease_0 : decode cX9_lease 0 = .ok (.aload_n 0, 1) := by decide +kernel
theorem dX9_lease_1 : decode cX9_lease 1 = .ok (.iload_n 1, 1) := by decide +kernel
theorem dX9_lease_2 : decode cX9_lease 2 = .ok (.invokevirtual 227, 3) := by decide +kernel
theorem dX9_lease_5 : decode cX9_lease 5 = .ok (.ifCond .eq 10, 3) := by decide +kernel
theorem dX9_lease_8 : decode cX9_lease 8 = .ok (.iload_n 2, 1) := by decide +kernel
theorem dX9_lease_9 : decode cX9_lease 9 = .ok (.invokestatic 236, 3) := by decide +kernel
theorem dX9_lease_12 : decode cX9_lease 12 = .ok (.ifCond .ne 10, 3) := by decide +kernel
theorem dX9_lease_15 : decode cX9_lease 15 = .ok (.aload_n 0, 1) := by decide +kernel
theorem dX9_lease_16 : decode cX9_lease 16 = .ok (.ldc 80, 2) := by decide +kernel
theorem dX9_lease_18 : decode cX9_lease 18 = .ok (.invokevirtual 81, 3) := by decide +kernel
theorem dX9_lease_21 : decode cX9_lease 21 = .ok (.ireturn, 1) := by decide +kernel
theorem dX9_lease_22 : decode cX9_lease 22 = .ok (.aload_n 0, 1) := by decide +kernel
theorem dX9_lease_23 : decode cX9_lease 23 = .ok (.iload_n 1, 1) := by decide +kernel
theorem dX9_lease_24 : decode cX9_lease 24 = .ok (.invokevirtual 239, 3) := by decide +kernel
theorem dX9_lease_27 : decode cX9_lease 27 = .ok (.ifCond .eq 12, 3) := by decide +kernel
theorem dX9_lease_30 : decode cX9_lease 30 = .ok (.aload_n 0, 1) := by decide +kernel
theorem dX9_lease_31 : decode cX9_lease 31 = .ok (.ldc 242, 2) := by decide +kernel
theorem dX9_lease_33 : decode cX9_lease 33 = .ok (.invokevirtual 81, 3) := by decide +kernel
theorem dX9_lease_36 : decode cX9_lease 36 = .ok (.goto 13, 3) := by decide +kernel
theorem dX9_lease_39 : decode cX9_lease 39 = .ok (.aload_n 0, 1) := by decide +kernel
theorem dX9_lease_40 : decode cX9_lease 40 = .ok (.iload_n 1, 1) := by decide +kernel
theorem dX9_lease_41 : decode cX9_lease 41 = .ok (.iconst 2, 1) := by decide +kernel
theorem dX9_lease_42 : decode cX9_lease 42 = .ok (.invokestatic 204, 3) := by decide +kernel
theorem dX9_lease_45 : decode cX9_lease 45 = .ok (.iload_n 2, 1) := by decide +kernel
theorem dX9_lease_46 : decode cX9_lease 46 = .ok (.invokevirtual 201, 3) := by decide +kernel
theorem dX9_lease_49 : decode cX9_lease 49 = .ok (.ireturn, 1) := by decide +kernel
theorem dX9_purse_0 : decode cX9_purse 0 = .ok (.aload_n 0, 1) := by decide +kernel
theorem dX9_purse_1 : decode cX9_purse 1 = .ok (.iload_n 1, 1) := by decide +kernel
theorem dX9_purse_2 : decode cX9_purse 2 = .ok (.invokevirtual 227, 3) := by decide +kernel
theorem dX9_purse_5 : decode cX9_purse 5 = .ok (.ifCond .eq 16, 3) := by decide +kernel
theorem dX9_purse_8 : decode cX9_purse 8 = .ok (.iload_n 2, 1) := by decide +kernel
theorem dX9_purse_9 : decode cX9_purse 9 = .ok (.sipush (-9999), 3) := by decide +kernel
theorem dX9_purse_12 : decode cX9_purse 12 = .ok (.sipush 9999, 3) := by decide +kernel
theorem dX9_purse_15 : decode cX9_purse 15 = .ok (.invokestatic 76, 3) := by decide +kernel
theorem dX9_purse_18 : decode cX9_purse 18 = .ok (.ifCond .ne 10, 3) := by decide +kernel
theorem dX9_purse_21 : decode cX9_purse 21 = .ok (.aload_n 0, 1) := by decide +kernel
theorem dX9_purse_22 : decode cX9_purse 22 = .ok (.ldc 80, 2) := by decide +kernel
theorem dX9_purse_24 : decode cX9_purse 24 = .ok (.invokevirtual 81, 3) := by decide +kernel
theorem dX9_purse_27 : decode cX9_purse 27 = .ok (.ireturn, 1) := by decide +kernel
theorem dX9_purse_28 : decode cX9_purse 28 = .ok (.aload_n 0, 1) := by decide +kernel
theorem dX9_purse_29 : decode cX9_purse 29 = .ok (.iload_n 1, 1) := by decide +kernel
theorem dX9_purse_30 : decode cX9_purse 30 = .ok (.iconst 3, 1) := by decide +kernel
theorem dX9_purse_31 : decode cX9_purse 31 = .ok (.invokestatic 204, 3) := by decide +kernel
theorem dX9_purse_34 : decode cX9_purse 34 = .ok (.iload_n 2, 1) := by decide +kernel
theorem dX9_purse_35 : decode cX9_purse 35 = .ok (.invokevirtual 201, 3) := by decide +kernel
theorem dX9_purse_38 : decode cX9_purse 38 = .ok (.ldc 230, 2) := by decide +kernel
theorem dX9_purse_40 : decode cX9_purse 40 = .ok (.iadd, 1) := by decide +kernel
theorem dX9_purse_41 : decode cX9_purse 41 = .ok (.ireturn, 1) := by decide +kernel
theorem dX9_manyOut_0 : decode cX9_manyOut 0 = .ok (.iconst 0, 1) := by decide +kernel
theorem dX9_manyOut_1 : decode cX9_manyOut 1 = .ok (.istore_n 1, 1) := by decide +kernel
theorem dX9_manyOut_2 : decode cX9_manyOut 2 = .ok (.iconst 0, 1) := by decide +kernel
theorem dX9_manyOut_3 : decode cX9_manyOut 3 = .ok (.istore_n 2, 1) := by decide +kernel
theorem dX9_manyOut_4 : decode cX9_manyOut 4 = .ok (.iload_n 2, 1) := by decide +kernel
theorem dX9_manyOut_5 : decode cX9_manyOut 5 = .ok (.aload_n 0, 1) := by decide +kernel
theorem dX9_manyOut_6 : decode cX9_manyOut 6 = .ok (.getfield 9, 3) := by decide +kernel
theorem dX9_manyOut_9 : decode cX9_manyOut 9 = .ok (.iconst 1, 1) := by decide +kernel
theorem dX9_manyOut_10 : decode cX9_manyOut 10 = .ok (.iaload, 1) := by decide +kernel
theorem dX9_manyOut_11 : decode cX9_manyOut 11 = .ok (.if_icmp .ge 18, 3) := by decide +kernel
theorem dX9_manyOut_14 : decode cX9_manyOut 14 = .ok (.iload_n 1, 1) := by decide +kernel
theorem dX9_manyOut_15 : decode cX9_manyOut 15 = .ok (.aload_n 0, 1) := by decide +kernel
theorem dX9_manyOut_16 : decode cX9_manyOut 16 = .ok (.iload_n 2, 1) := by decide +kernel
theorem dX9_manyOut_17 : decode cX9_manyOut 17 = .ok (.iconst 4, 1) := by decide +kernel
theorem dX9_manyOut_18 : decode cX9_manyOut 18 = .ok (.invokevirtual 179, 3) := by decide +kernel
theorem dX9_manyOut_21 : decode cX9_manyOut 21 = .ok (.iadd, 1) := by decide +kernel
theorem dX9_manyOut_22 : decode cX9_manyOut 22 = .ok (.istore_n 1, 1) := by decide +kernel
theorem dX9_manyOut_23 : decode cX9_manyOut 23 = .ok (.iinc 2 1, 3) := by decide +kernel
theorem dX9_manyOut_26 : decode cX9_manyOut 26 = .ok (.goto (-22), 3) := by decide +kernel
theorem dX9_manyOut_29 : decode cX9_manyOut 29 = .ok (.iload_n 1, 1) := by decide +kernel
theorem dX9_manyOut_30 : decode cX9_manyOut 30 = .ok (.ireturn, 1) := by decide +kernel
theorem dX9_pardon_0 : decode cX9_pardon 0 = .ok (.aload_n 0, 1) := by decide +kernel
theorem dX9_pardon_1 : decode cX9_pardon 1 = .ok (.iload_n 1, 1) := by decide +kernel
theorem dX9_pardon_2 : decode cX9_pardon 2 = .ok (.invokevirtual 227, 3) := by decide +kernel
theorem dX9_pardon_5 : decode cX9_pardon 5 = .ok (.ifCond .ne 10, 3) := by decide +kernel
theorem dX9_pardon_8 : decode cX9_pardon 8 = .ok (.aload_n 0, 1) := by decide +kernel
theorem dX9_pardon_9 : decode cX9_pardon 9 = .ok (.ldc 80, 2) := by decide +kernel
theorem dX9_pardon_11 : decode cX9_pardon 11 = .ok (.invokevirtual 81, 3) := by decide +kernel
theorem dX9_pardon_14 : decode cX9_pardon 14 = .ok (.ireturn, 1) := by decide +kernel
theorem dX9_pardon_15 : decode cX9_pardon 15 = .ok (.aload_n 0, 1) := by decide +kernel
theorem dX9_pardon_16 : decode cX9_pardon 16 = .ok (.iload_n 1, 1) := by decide +kernel
theorem dX9_pardon_17 : decode cX9_pardon 17 = .ok (.invokevirtual 239, 3) := by decide +kernel
theorem dX9_pardon_20 : decode cX9_pardon 20 = .ok (.ifCond .ne 10, 3) := by decide +kernel
theorem dX9_pardon_23 : decode cX9_pardon 23 = .ok (.aload_n 0, 1) := by decide +kernel
theorem dX9_pardon_24 : decode cX9_pardon 24 = .ok (.ldc 242, 2) := by decide +kernel
theorem dX9_pardon_26 : decode cX9_pardon 26 = .ok (.invokevirtual 81, 3) := by decide +kernel
theorem dX9_pardon_29 : decode cX9_pardon 29 = .ok (.ireturn, 1) := by decide +kernel
theorem dX9_pardon_30 : decode cX9_pardon 30 = .ok (.aload_n 0, 1) := by decide +kernel
theorem dX9_pardon_31 : decode cX9_pardon 31 = .ok (.getfield 9, 3) := by decide +kernel
theorem dX9_pardon_34 : decode cX9_pardon 34 = .ok (.iload_n 1, 1) := by decide +kernel
theorem dX9_pardon_35 : decode cX9_pardon 35 = .ok (.iconst 4, 1) := by decide +kernel
theorem dX9_pardon_36 : decode cX9_pardon 36 = .ok (.invokestatic 204, 3) := by decide +kernel
theorem dX9_pardon_39 : decode cX9_pardon 39 = .ok (.iconst 0, 1) := by decide +kernel
theorem dX9_pardon_40 : decode cX9_pardon 40 = .ok (.iastore, 1) := by decide +kernel
theorem dX9_pardon_41 : decode cX9_pardon 41 = .ok (.aload_n 0, 1) := by decide +kernel
theorem dX9_pardon_42 : decode cX9_pardon 42 = .ok (.getfield 9, 3) := by decide +kernel
theorem dX9_pardon_45 : decode cX9_pardon 45 = .ok (.iload_n 1, 1) := by decide +kernel
theorem dX9_pardon_46 : decode cX9_pardon 46 = .ok (.iconst 3, 1) := by decide +kernel
theorem dX9_pardon_47 : decode cX9_pardon 47 = .ok (.invokestatic 204, 3) := by decide +kernel
theorem dX9_pardon_50 : decode cX9_pardon 50 = .ok (.iconst 0, 1) := by decide +kernel
theorem dX9_pardon_51 : decode cX9_pardon 51 = .ok (.iastore, 1) := by decide +kernel
theorem dX9_pardon_52 : decode cX9_pardon 52 = .ok (.aload_n 0, 1) := by decide +kernel
theorem dX9_pardon_53 : decode cX9_pardon 53 = .ok (.invokevirtual 243, 3) := by decide +kernel
theorem dX9_pardon_56 : decode cX9_pardon 56 = .ok (.ireturn, 1) := by decide +kernel
theorem dX9_pays_0 : decode cX9_pays 0 = .ok (.aload_n 0, 1) := by decide +kernel
theorem dX9_pays_1 : decode cX9_pays 1 = .ok (.getfield 9, 3) := by decide +kernel
theorem dX9_pays_4 : decode cX9_pays 4 = .ok (.iload_n 1, 1) := by decide +kernel
theorem dX9_pays_5 : decode cX9_pays 5 = .ok (.iconst 3, 1) := by decide +kernel
theorem dX9_pays_6 : decode cX9_pays 6 = .ok (.invokestatic 204, 3) := by decide +kernel
theorem dX9_pays_9 : decode cX9_pays 9 = .ok (.sipush (-9999), 3) := by decide +kernel
theorem dX9_pays_12 : decode cX9_pays 12 = .ok (.aload_n 0, 1) := by decide +kernel
theorem dX9_pays_13 : decode cX9_pays 13 = .ok (.iload_n 1, 1) := by decide +kernel
theorem dX9_pays_14 : decode cX9_pays 14 = .ok (.iconst 3, 1) := by decide +kernel
theorem dX9_pays_15 : decode cX9_pays 15 = .ok (.invokevirtual 179, 3) := by decide +kernel
theorem dX9_pays_18 : decode cX9_pays 18 = .ok (.aload_n 0, 1) := by decide +kernel
theorem dX9_pays_19 : decode cX9_pays 19 = .ok (.iload_n 1, 1) := by decide +kernel
theorem dX9_pays_20 : decode cX9_pays 20 = .ok (.invokevirtual 231, 3) := by decide +kernel
theorem dX9_pays_23 : decode cX9_pays 23 = .ok (.isub, 1) := by decide +kernel
theorem dX9_pays_24 : decode cX9_pays 24 = .ok (.invokestatic 69, 3) := by decide +kernel
theorem dX9_pays_27 : decode cX9_pays 27 = .ok (.iastore, 1) := by decide +kernel
theorem dX9_pays_28 : decode cX9_pays 28 = .ok (.aload_n 0, 1) := by decide +kernel
theorem dX9_pays_29 : decode cX9_pays 29 = .ok (.iload_n 1, 1) := by decide +kernel
theorem dX9_pays_30 : decode cX9_pays 30 = .ok (.iconst 3, 1) := by decide +kernel
theorem dX9_pays_31 : decode cX9_pays 31 = .ok (.invokevirtual 179, 3) := by decide +kernel
theorem dX9_pays_34 : decode cX9_pays 34 = .ok (.ifCond .ge 25, 3) := by decide +kernel
theorem dX9_pays_37 : decode cX9_pays 37 = .ok (.aload_n 0, 1) := by decide +kernel
theorem dX9_pays_38 : decode cX9_pays 38 = .ok (.getfield 9, 3) := by decide +kernel
theorem dX9_pays_41 : decode cX9_pays 41 = .ok (.iload_n 1, 1) := by decide +kernel
theorem dX9_pays_42 : decode cX9_pays 42 = .ok (.iconst 4, 1) := by decide +kernel
theorem dX9_pays_43 : decode cX9_pays 43 = .ok (.invokestatic 204, 3) := by decide +kernel
theorem dX9_pays_46 : decode cX9_pays 46 = .ok (.iconst 1, 1) := by decide +kernel
theorem dX9_pays_47 : decode cX9_pays 47 = .ok (.iastore, 1) := by decide +kernel
theorem dX9_pays_48 : decode cX9_pays 48 = .ok (.aload_n 0, 1) := by decide +kernel
theorem dX9_pays_49 : decode cX9_pays 49 = .ok (.getfield 9, 3) := by decide +kernel
theorem dX9_pays_52 : decode cX9_pays 52 = .ok (.iload_n 1, 1) := by decide +kernel
theorem dX9_pays_53 : decode cX9_pays 53 = .ok (.iconst 2, 1) := by decide +kernel
theorem dX9_pays_54 : decode cX9_pays 54 = .ok (.invokestatic 204, 3) := by decide +kernel
theorem dX9_pays_57 : decode cX9_pays 57 = .ok (.iconst 0, 1) := by decide +kernel
theorem dX9_pays_58 : decode cX9_pays 58 = .ok (.iastore, 1) := by decide +kernel
theorem dX9_pays_59 : decode cX9_pays 59 = .ok (.return_, 1) := by decide +kernel
theorem dX9_night_0 : decode cX9_night 0 = .ok (.iconst 0, 1) := by decide +kernel
theorem dX9_night_1 : decode cX9_night 1 = .ok (.istore_n 1, 1) := by decide +kernel
theorem dX9_night_2 : decode cX9_night 2 = .ok (.iload_n 1, 1) := by decide +kernel
theorem dX9_night_3 : decode cX9_night 3 = .ok (.aload_n 0, 1) := by decide +kernel
theorem dX9_night_4 : decode cX9_night 4 = .ok (.getfield 9, 3) := by decide +kernel
theorem dX9_night_7 : decode cX9_night 7 = .ok (.iconst 1, 1) := by decide +kernel
theorem dX9_night_8 : decode cX9_night 8 = .ok (.iaload, 1) := by decide +kernel
theorem dX9_night_9 : decode cX9_night 9 = .ok (.if_icmp .ge 54, 3) := by decide +kernel
theorem dX9_night_12 : decode cX9_night 12 = .ok (.aload_n 0, 1) := by decide +kernel
theorem dX9_night_13 : decode cX9_night 13 = .ok (.getfield 9, 3) := by decide +kernel
theorem dX9_night_16 : decode cX9_night 16 = .ok (.iload_n 1, 1) := by decide +kernel
theorem dX9_night_17 : decode cX9_night 17 = .ok (.iconst 3, 1) := by decide +kernel
theorem dX9_night_18 : decode cX9_night 18 = .ok (.invokestatic 204, 3) := by decide +kernel
theorem dX9_night_21 : decode cX9_night 21 = .ok (.aload_n 0, 1) := by decide +kernel
theorem dX9_night_22 : decode cX9_night 22 = .ok (.iload_n 1, 1) := by decide +kernel
theorem dX9_night_23 : decode cX9_night 23 = .ok (.invokevirtual 239, 3) := by decide +kernel
theorem dX9_night_26 : decode cX9_night 26 = .ok (.ifCond .eq 12, 3) := by decide +kernel
theorem dX9_night_29 : decode cX9_night 29 = .ok (.aload_n 0, 1) := by decide +kernel
theorem dX9_night_30 : decode cX9_night 30 = .ok (.iload_n 1, 1) := by decide +kernel
theorem dX9_night_31 : decode cX9_night 31 = .ok (.iconst 3, 1) := by decide +kernel
theorem dX9_night_32 : decode cX9_night 32 = .ok (.invokevirtual 179, 3) := by decide +kernel
theorem dX9_night_35 : decode cX9_night 35 = .ok (.goto 21, 3) := by decide +kernel
theorem dX9_night_38 : decode cX9_night 38 = .ok (.sipush 9999, 3) := by decide +kernel
theorem dX9_night_41 : decode cX9_night 41 = .ok (.aload_n 0, 1) := by decide +kernel
theorem dX9_night_42 : decode cX9_night 42 = .ok (.iload_n 1, 1) := by decide +kernel
theorem dX9_night_43 : decode cX9_night 43 = .ok (.iconst 3, 1) := by decide +kernel
theorem dX9_night_44 : decode cX9_night 44 = .ok (.invokevirtual 179, 3) := by decide +kernel
theorem dX9_night_47 : decode cX9_night 47 = .ok (.aload_n 0, 1) := by decide +kernel
theorem dX9_night_48 : decode cX9_night 48 = .ok (.iload_n 1, 1) := by decide +kernel
theorem dX9_night_49 : decode cX9_night 49 = .ok (.invokevirtual 246, 3) := by decide +kernel
theorem dX9_night_52 : decode cX9_night 52 = .ok (.iadd, 1) := by decide +kernel
theorem dX9_night_53 : decode cX9_night 53 = .ok (.invokestatic 63, 3) := by decide +kernel
theorem dX9_night_56 : decode cX9_night 56 = .ok (.iastore, 1) := by decide +kernel
theorem dX9_night_57 : decode cX9_night 57 = .ok (.iinc 1 1, 3) := by decide +kernel
theorem dX9_night_60 : decode cX9_night 60 = .ok (.goto (-58), 3) := by decide +kernel
theorem dX9_night_63 : decode cX9_night 63 = .ok (.aload_n 0, 1) := by decide +kernel
theorem dX9_night_64 : decode cX9_night 64 = .ok (.getfield 9, 3) := by decide +kernel
theorem dX9_night_67 : decode cX9_night 67 = .ok (.iconst 0, 1) := by decide +kernel
theorem dX9_night_68 : decode cX9_night 68 = .ok (.dup2, 1) := by decide +kernel
theorem dX9_night_69 : decode cX9_night 69 = .ok (.iaload, 1) := by decide +kernel
theorem dX9_night_70 : decode cX9_night 70 = .ok (.iconst 1, 1) := by decide +kernel
theorem dX9_night_71 : decode cX9_night 71 = .ok (.iadd, 1) := by decide +kernel
theorem dX9_night_72 : decode cX9_night 72 = .ok (.iastore, 1) := by decide +kernel
theorem dX9_night_73 : decode cX9_night 73 = .ok (.iconst 0, 1) := by decide +kernel
theorem dX9_night_74 : decode cX9_night 74 = .ok (.istore_n 1, 1) := by decide +kernel
theorem dX9_night_75 : decode cX9_night 75 = .ok (.iload_n 1, 1) := by decide +kernel
theorem dX9_night_76 : decode cX9_night 76 = .ok (.aload_n 0, 1) := by decide +kernel
theorem dX9_night_77 : decode cX9_night 77 = .ok (.getfield 9, 3) := by decide +kernel
theorem dX9_night_80 : decode cX9_night 80 = .ok (.iconst 1, 1) := by decide +kernel
theorem dX9_night_81 : decode cX9_night 81 = .ok (.iaload, 1) := by decide +kernel
theorem dX9_night_82 : decode cX9_night 82 = .ok (.if_icmp .ge 33, 3) := by decide +kernel
theorem dX9_night_85 : decode cX9_night 85 = .ok (.aload_n 0, 1) := by decide +kernel
theorem dX9_night_86 : decode cX9_night 86 = .ok (.getfield 9, 3) := by decide +kernel
theorem dX9_night_89 : decode cX9_night 89 = .ok (.iconst 0, 1) := by decide +kernel
theorem dX9_night_90 : decode cX9_night 90 = .ok (.iaload, 1) := by decide +kernel
theorem dX9_night_91 : decode cX9_night 91 = .ok (.iconst 4, 1) := by decide +kernel
theorem dX9_night_92 : decode cX9_night 92 = .ok (.irem, 1) := by decide +kernel
theorem dX9_night_93 : decode cX9_night 93 = .ok (.ifCond .ne 22, 3) := by decide +kernel
theorem dX9_night_96 : decode cX9_night 96 = .ok (.aload_n 0, 1) := by decide +kernel
theorem dX9_night_97 : decode cX9_night 97 = .ok (.iload_n 1, 1) := by decide +kernel
theorem dX9_night_98 : decode cX9_night 98 = .ok (.invokevirtual 239, 3) := by decide +kernel
theorem dX9_night_101 : decode cX9_night 101 = .ok (.ifCond .ne 8, 3) := by decide +kernel
theorem dX9_night_104 : decode cX9_night 104 = .ok (.aload_n 0, 1) := by decide +kernel
theorem dX9_night_105 : decode cX9_night 105 = .ok (.iload_n 1, 1) := by decide +kernel
theorem dX9_night_106 : decode cX9_night 106 = .ok (.invokevirtual 249, 3) := by decide +kernel
theorem dX9_night_109 : decode cX9_night 109 = .ok (.iinc 1 1, 3) := by decide +kernel
theorem dX9_night_112 : decode cX9_night 112 = .ok (.goto (-37), 3) := by decide +kernel
theorem dX9_night_115 : decode cX9_night 115 = .ok (.return_, 1) := by decide +kernel
theorem dX9_pass_0 : decode cX9_pass 0 = .ok (.iconst 0, 1) := by decide +kernel
theorem dX9_pass_1 : decode cX9_pass 1 = .ok (.istore_n 2, 1) := by decide +kernel
theorem dX9_pass_2 : decode cX9_pass 2 = .ok (.iload_n 2, 1) := by decide +kernel
theorem dX9_pass_3 : decode cX9_pass 3 = .ok (.iload_n 1, 1) := by decide +kernel
theorem dX9_pass_4 : decode cX9_pass 4 = .ok (.if_icmp .ge 13, 3) := by decide +kernel
theorem dX9_pass_7 : decode cX9_pass 7 = .ok (.aload_n 0, 1) := by decide +kernel
theorem dX9_pass_8 : decode cX9_pass 8 = .ok (.invokevirtual 252, 3) := by decide +kernel
theorem dX9_pass_11 : decode cX9_pass 11 = .ok (.iinc 2 1, 3) := by decide +kernel
theorem dX9_pass_14 : decode cX9_pass 14 = .ok (.goto (-12), 3) := by decide +kernel
theorem dX9_pass_17 : decode cX9_pass 17 = .ok (.return_, 1) := by decide +kernel
theorem dX9_nights_0 : decode cX9_nights 0 = .ok (.iload_n 1, 1) := by decide +kernel
theorem dX9_nights_1 : decode cX9_nights 1 = .ok (.iconst 1, 1) := by decide +kernel
theorem dX9_nights_2 : decode cX9_nights 2 = .ok (.bipush 100, 2) := by decide +kernel
theorem dX9_nights_4 : decode cX9_nights 4 = .ok (.invokestatic 76, 3) := by decide +kernel
theorem dX9_nights_7 : decode cX9_nights 7 = .ok (.ifCond .ne 10, 3) := by decide +kernel
theorem dX9_nights_10 : decode cX9_nights 10 = .ok (.aload_n 0, 1) := by decide +kernel
theorem dX9_nights_11 : decode cX9_nights 11 = .ok (.ldc 80, 2) := by decide +kernel
theorem dX9_nights_13 : decode cX9_nights 13 = .ok (.invokevirtual 81, 3) := by decide +kernel
theorem dX9_nights_16 : decode cX9_nights 16 = .ok (.ireturn, 1) := by decide +kernel
theorem dX9_nights_17 : decode cX9_nights 17 = .ok (.aload_n 0, 1) := by decide +kernel
theorem dX9_nights_18 : decode cX9_nights 18 = .ok (.getfield 9, 3) := by decide +kernel
theorem dX9_nights_21 : decode cX9_nights 21 = .ok (.iconst 0, 1) := by decide +kernel
theorem dX9_nights_22 : decode cX9_nights 22 = .ok (.iaload, 1) := by decide +kernel
theorem dX9_nights_23 : decode cX9_nights 23 = .ok (.iload_n 1, 1) := by decide +kernel
theorem dX9_nights_24 : decode cX9_nights 24 = .ok (.iadd, 1) := by decide +kernel
theorem dX9_nights_25 : decode cX9_nights 25 = .ok (.sipush 9999, 3) := by decide +kernel
theorem dX9_nights_28 : decode cX9_nights 28 = .ok (.if_icmp .le 10, 3) := by decide +kernel
theorem dX9_nights_31 : decode cX9_nights 31 = .ok (.aload_n 0, 1) := by decide +kernel
theorem dX9_nights_32 : decode cX9_nights 32 = .ok (.ldc 242, 2) := by decide +kernel
theorem dX9_nights_34 : decode cX9_nights 34 = .ok (.invokevirtual 81, 3) := by decide +kernel
theorem dX9_nights_37 : decode cX9_nights 37 = .ok (.ireturn, 1) := by decide +kernel
theorem dX9_nights_38 : decode cX9_nights 38 = .ok (.aload_n 0, 1) := by decide +kernel
theorem dX9_nights_39 : decode cX9_nights 39 = .ok (.iload_n 1, 1) := by decide +kernel
theorem dX9_nights_40 : decode cX9_nights 40 = .ok (.invokevirtual 255, 3) := by decide +kernel
theorem dX9_nights_43 : decode cX9_nights 43 = .ok (.aload_n 0, 1) := by decide +kernel
theorem dX9_nights_44 : decode cX9_nights 44 = .ok (.invokevirtual 243, 3) := by decide +kernel
theorem dX9_nights_47 : decode cX9_nights 47 = .ok (.ireturn, 1) := by decide +kernel
theorem dX9_drawn_0 : decode cX9_drawn 0 = .ok (.aload_n 0, 1) := by decide +kernel
theorem dX9_drawn_1 : decode cX9_drawn 1 = .ok (.getfield 9, 3) := by decide +kernel
theorem dX9_drawn_4 : decode cX9_drawn 4 = .ok (.iconst 5, 1) := by decide +kernel
theorem dX9_drawn_5 : decode cX9_drawn 5 = .ok (.aload_n 0, 1) := by decide +kernel
theorem dX9_drawn_6 : decode cX9_drawn 6 = .ok (.getfield 9, 3) := by decide +kernel
theorem dX9_drawn_9 : decode cX9_drawn 9 = .ok (.iconst 5, 1) := by decide +kernel
theorem dX9_drawn_10 : decode cX9_drawn 10 = .ok (.iaload, 1) := by decide +kernel
theorem dX9_drawn_11 : decode cX9_drawn 11 = .ok (.ldc_w 258, 3) := by decide +kernel
theorem dX9_drawn_14 : decode cX9_drawn 14 = .ok (.imul, 1) := by decide +kernel
theorem dX9_drawn_15 : decode cX9_drawn 15 = .ok (.sipush 12345, 3) := by decide +kernel
theorem dX9_drawn_18 : decode cX9_drawn 18 = .ok (.iadd, 1) := by decide +kernel
theorem dX9_drawn_19 : decode cX9_drawn 19 = .ok (.iastore, 1) := by decide +kernel
theorem dX9_drawn_20 : decode cX9_drawn 20 = .ok (.aload_n 0, 1) := by decide +kernel
theorem dX9_drawn_21 : decode cX9_drawn 21 = .ok (.getfield 9, 3) := by decide +kernel
theorem dX9_drawn_24 : decode cX9_drawn 24 = .ok (.iconst 5, 1) := by decide +kernel
theorem dX9_drawn_25 : decode cX9_drawn 25 = .ok (.iaload, 1) := by decide +kernel
theorem dX9_drawn_26 : decode cX9_drawn 26 = .ok (.bipush 8, 2) := by decide +kernel
theorem dX9_drawn_28 : decode cX9_drawn 28 = .ok (.iushr, 1) := by decide +kernel
theorem dX9_drawn_29 : decode cX9_drawn 29 = .ok (.ireturn, 1) := by decide +kernel
theorem dX9_takesByDraws_0 : decode cX9_takesByDraws 0 = .ok (.aload_n 0, 1) := by decide +kernel
theorem dX9_takesByDraws_1 : decode cX9_takesByDraws 1 = .ok (.invokevirtual 259, 3) := by decide +kernel
theorem dX9_takesByDraws_4 : decode cX9_takesByDraws 4 = .ok (.aload_n 0, 1) := by decide +kernel
theorem dX9_takesByDraws_5 : decode cX9_takesByDraws 5 = .ok (.getfield 9, 3) := by decide +kernel
theorem dX9_takesByDraws_8 : decode cX9_takesByDraws 8 = .ok (.iconst 1, 1) := by decide +kernel
theorem dX9_takesByDraws_9 : decode cX9_takesByDraws 9 = .ok (.iaload, 1) := by decide +kernel
theorem dX9_takesByDraws_10 : decode cX9_takesByDraws 10 = .ok (.irem, 1) := by decide +kernel
theorem dX9_takesByDraws_11 : decode cX9_takesByDraws 11 = .ok (.istore_n 1, 1) := by decide +kernel
theorem dX9_takesByDraws_12 : decode cX9_takesByDraws 12 = .ok (.aload_n 0, 1) := by decide +kernel
theorem dX9_takesByDraws_13 : decode cX9_takesByDraws 13 = .ok (.invokevirtual 259, 3) := by decide +kernel
theorem dX9_takesByDraws_16 : decode cX9_takesByDraws 16 = .ok (.bipush 24, 2) := by decide +kernel
theorem dX9_takesByDraws_18 : decode cX9_takesByDraws 18 = .ok (.irem, 1) := by decide +kernel
theorem dX9_takesByDraws_19 : decode cX9_takesByDraws 19 = .ok (.istore_n 2, 1) := by decide +kernel
theorem dX9_takesByDraws_20 : decode cX9_takesByDraws 20 = .ok (.aload_n 0, 1) := by decide +kernel
theorem dX9_takesByDraws_21 : decode cX9_takesByDraws 21 = .ok (.getfield 9, 3) := by decide +kernel
theorem dX9_takesByDraws_24 : decode cX9_takesByDraws 24 = .ok (.iload_n 1, 1) := by decide +kernel
theorem dX9_takesByDraws_25 : decode cX9_takesByDraws 25 = .ok (.iconst 2, 1) := by decide +kernel
theorem dX9_takesByDraws_26 : decode cX9_takesByDraws 26 = .ok (.invokestatic 204, 3) := by decide +kernel
theorem dX9_takesByDraws_29 : decode cX9_takesByDraws 29 = .ok (.dup2, 1) := by decide +kernel
theorem dX9_takesByDraws_30 : decode cX9_takesByDraws 30 = .ok (.iaload, 1) := by decide +kernel
theorem dX9_takesByDraws_31 : decode cX9_takesByDraws 31 = .ok (.aload_n 0, 1) := by decide +kernel
theorem dX9_takesByDraws_32 : decode cX9_takesByDraws 32 = .ok (.iload_n 1, 1) := by decide +kernel
theorem dX9_takesByDraws_33 : decode cX9_takesByDraws 33 = .ok (.invokevirtual 239, 3) := by decide +kernel
theorem dX9_takesByDraws_36 : decode cX9_takesByDraws 36 = .ok (.ifCond .eq 7, 3) := by decide +kernel
theorem dX9_takesByDraws_39 : decode cX9_takesByDraws 39 = .ok (.iconst 0, 1) := by decide +kernel
theorem dX9_takesByDraws_40 : decode cX9_takesByDraws 40 = .ok (.goto 6, 3) := by decide +kernel
theorem dX9_takesByDraws_43 : decode cX9_takesByDraws 43 = .ok (.iconst 1, 1) := by decide +kernel
theorem dX9_takesByDraws_44 : decode cX9_takesByDraws 44 = .ok (.iload_n 2, 1) := by decide +kernel
theorem dX9_takesByDraws_45 : decode cX9_takesByDraws 45 = .ok (.ishl, 1) := by decide +kernel
theorem dX9_takesByDraws_46 : decode cX9_takesByDraws 46 = .ok (.ior, 1) := by decide +kernel
theorem dX9_takesByDraws_47 : decode cX9_takesByDraws 47 = .ok (.iastore, 1) := by decide +kernel
theorem dX9_takesByDraws_48 : decode cX9_takesByDraws 48 = .ok (.return_, 1) := by decide +kernel
theorem dX9_loose_0 : decode cX9_loose 0 = .ok (.iload_n 1, 1) := by decide +kernel
theorem dX9_loose_1 : decode cX9_loose 1 = .ok (.iconst 1, 1) := by decide +kernel
theorem dX9_loose_2 : decode cX9_loose 2 = .ok (.bipush 40, 2) := by decide +kernel
theorem dX9_loose_4 : decode cX9_loose 4 = .ok (.invokestatic 76, 3) := by decide +kernel
theorem dX9_loose_7 : decode cX9_loose 7 = .ok (.ifCond .ne 10, 3) := by decide +kernel
theorem dX9_loose_10 : decode cX9_loose 10 = .ok (.aload_n 0, 1) := by decide +kernel
theorem dX9_loose_11 : decode cX9_loose 11 = .ok (.ldc 80, 2) := by decide +kernel
theorem dX9_loose_13 : decode cX9_loose 13 = .ok (.invokevirtual 81, 3) := by decide +kernel
theorem dX9_loose_16 : decode cX9_loose 16 = .ok (.ireturn, 1) := by decide +kernel
theorem dX9_loose_17 : decode cX9_loose 17 = .ok (.aload_n 0, 1) := by decide +kernel
theorem dX9_loose_18 : decode cX9_loose 18 = .ok (.getfield 9, 3) := by decide +kernel
theorem dX9_loose_21 : decode cX9_loose 21 = .ok (.iconst 0, 1) := by decide +kernel
theorem dX9_loose_22 : decode cX9_loose 22 = .ok (.iaload, 1) := by decide +kernel
theorem dX9_loose_23 : decode cX9_loose 23 = .ok (.iload_n 1, 1) := by decide +kernel
theorem dX9_loose_24 : decode cX9_loose 24 = .ok (.iadd, 1) := by decide +kernel
theorem dX9_loose_25 : decode cX9_loose 25 = .ok (.sipush 9999, 3) := by decide +kernel
theorem dX9_loose_28 : decode cX9_loose 28 = .ok (.if_icmp .le 10, 3) := by decide +kernel
theorem dX9_loose_31 : decode cX9_loose 31 = .ok (.aload_n 0, 1) := by decide +kernel
theorem dX9_loose_32 : decode cX9_loose 32 = .ok (.ldc 242, 2) := by decide +kernel
theorem dX9_loose_34 : decode cX9_loose 34 = .ok (.invokevirtual 81, 3) := by decide +kernel
theorem dX9_loose_37 : decode cX9_loose 37 = .ok (.ireturn, 1) := by decide +kernel
theorem dX9_loose_38 : decode cX9_loose 38 = .ok (.iconst 0, 1) := by decide +kernel
theorem dX9_loose_39 : decode cX9_loose 39 = .ok (.istore_n 2, 1) := by decide +kernel
theorem dX9_loose_40 : decode cX9_loose 40 = .ok (.iload_n 2, 1) := by decide +kernel
theorem dX9_loose_41 : decode cX9_loose 41 = .ok (.iload_n 1, 1) := by decide +kernel
theorem dX9_loose_42 : decode cX9_loose 42 = .ok (.if_icmp .ge 39, 3) := by decide +kernel
theorem dX9_loose_45 : decode cX9_loose 45 = .ok (.aload_n 0, 1) := by decide +kernel
theorem dX9_loose_46 : decode cX9_loose 46 = .ok (.getfield 9, 3) := by decide +kernel
theorem dX9_loose_49 : decode cX9_loose 49 = .ok (.iconst 2, 1) := by decide +kernel
theorem dX9_loose_50 : decode cX9_loose 50 = .ok (.aload_n 0, 1) := by decide +kernel
theorem dX9_loose_51 : decode cX9_loose 51 = .ok (.invokevirtual 259, 3) := by decide +kernel
theorem dX9_loose_54 : decode cX9_loose 54 = .ok (.bipush 10, 2) := by decide +kernel
theorem dX9_loose_56 : decode cX9_loose 56 = .ok (.irem, 1) := by decide +kernel
theorem dX9_loose_57 : decode cX9_loose 57 = .ok (.iastore, 1) := by decide +kernel
theorem dX9_loose_58 : decode cX9_loose 58 = .ok (.aload_n 0, 1) := by decide +kernel
theorem dX9_loose_59 : decode cX9_loose 59 = .ok (.getfield 9, 3) := by decide +kernel
theorem dX9_loose_62 : decode cX9_loose 62 = .ok (.iconst 1, 1) := by decide +kernel
theorem dX9_loose_63 : decode cX9_loose 63 = .ok (.iaload, 1) := by decide +kernel
theorem dX9_loose_64 : decode cX9_loose 64 = .ok (.ifCond .le 7, 3) := by decide +kernel
theorem dX9_loose_67 : decode cX9_loose 67 = .ok (.aload_n 0, 1) := by decide +kernel
theorem dX9_loose_68 : decode cX9_loose 68 = .ok (.invokevirtual 262, 3) := by decide +kernel
theorem dX9_loose_71 : decode cX9_loose 71 = .ok (.aload_n 0, 1) := by decide +kernel
theorem dX9_loose_72 : decode cX9_loose 72 = .ok (.invokevirtual 252, 3) := by decide +kernel
theorem dX9_loose_75 : decode cX9_loose 75 = .ok (.iinc 2 1, 3) := by decide +kernel
theorem dX9_loose_78 : decode cX9_loose 78 = .ok (.goto (-38), 3) := by decide +kernel
theorem dX9_loose_81 : decode cX9_loose 81 = .ok (.aload_n 0, 1) := by decide +kernel
theorem dX9_loose_82 : decode cX9_loose 82 = .ok (.invokevirtual 243, 3) := by decide +kernel
theorem dX9_loose_85 : decode cX9_loose 85 = .ok (.ireturn, 1) := by decide +kernel
theorem dX9_then_0 : decode cX9_then 0 = .ok (.iload_n 1, 1) := by decide +kernel
theorem dX9_then_1 : decode cX9_then 1 = .ok (.iconst 0, 1) := by decide +kernel
theorem dX9_then_2 : decode cX9_then 2 = .ok (.bipush 100, 2) := by decide +kernel
theorem dX9_then_4 : decode cX9_then 4 = .ok (.invokestatic 76, 3) := by decide +kernel
theorem dX9_then_7 : decode cX9_then 7 = .ok (.ifCond .eq 20, 3) := by decide +kernel
theorem dX9_then_10 : decode cX9_then 10 = .ok (.aload_n 0, 1) := by decide +kernel
theorem dX9_then_11 : decode cX9_then 11 = .ok (.iload_n 2, 1) := by decide +kernel
theorem dX9_then_12 : decode cX9_then 12 = .ok (.invokevirtual 227, 3) := by decide +kernel
theorem dX9_then_15 : decode cX9_then 15 = .ok (.ifCond .eq 12, 3) := by decide +kernel
theorem dX9_then_18 : decode cX9_then 18 = .ok (.iload_n 3, 1) := by decide +kernel
theorem dX9_then_19 : decode cX9_then 19 = .ok (.iconst 0, 1) := by decide +kernel
theorem dX9_then_20 : decode cX9_then 20 = .ok (.iconst 1, 1) := by decide +kernel
theorem dX9_then_21 : decode cX9_then 21 = .ok (.invokestatic 76, 3) := by decide +kernel
theorem dX9_then_24 : decode cX9_then 24 = .ok (.ifCond .ne 10, 3) := by decide +kernel
theorem dX9_then_27 : decode cX9_then 27 = .ok (.aload_n 0, 1) := by decide +kernel
theorem dX9_then_28 : decode cX9_then 28 = .ok (.ldc 80, 2) := by decide +kernel
theorem dX9_then_30 : decode cX9_then 30 = .ok (.invokevirtual 81, 3) := by decide +kernel
theorem dX9_then_33 : decode cX9_then 33 = .ok (.ireturn, 1) := by decide +kernel
theorem dX9_then_34 : decode cX9_then 34 = .ok (.aload_n 0, 1) := by decide +kernel
theorem dX9_then_35 : decode cX9_then 35 = .ok (.getfield 9, 3) := by decide +kernel
theorem dX9_then_38 : decode cX9_then 38 = .ok (.aload_n 0, 1) := by decide +kernel
theorem dX9_then_39 : decode cX9_then 39 = .ok (.getfield 16, 3) := by decide +kernel
theorem dX9_then_42 : decode cX9_then 42 = .ok (.invokestatic 72, 3) := by decide +kernel
theorem dX9_then_45 : decode cX9_then 45 = .ok (.aload_n 0, 1) := by decide +kernel
theorem dX9_then_46 : decode cX9_then 46 = .ok (.iload_n 1, 1) := by decide +kernel
theorem dX9_then_47 : decode cX9_then 47 = .ok (.invokevirtual 255, 3) := by decide +kernel
theorem dX9_then_50 : decode cX9_then 50 = .ok (.aload_n 0, 1) := by decide +kernel
theorem dX9_then_51 : decode cX9_then 51 = .ok (.iload_n 3, 1) := by decide +kernel
theorem dX9_then_52 : decode cX9_then 52 = .ok (.ifCond .ne 15, 3) := by decide +kernel
theorem dX9_then_55 : decode cX9_then 55 = .ok (.aload_n 0, 1) := by decide +kernel
theorem dX9_then_56 : decode cX9_then 56 = .ok (.iload_n 2, 1) := by decide +kernel
theorem dX9_then_57 : decode cX9_then 57 = .ok (.iconst 3, 1) := by decide +kernel
theorem dX9_then_58 : decode cX9_then 58 = .ok (.invokevirtual 179, 3) := by decide +kernel
theorem dX9_then_61 : decode cX9_then 61 = .ok (.ldc 230, 2) := by decide +kernel
theorem dX9_then_63 : decode cX9_then 63 = .ok (.iadd, 1) := by decide +kernel
theorem dX9_then_64 : decode cX9_then 64 = .ok (.goto 9, 3) := by decide +kernel
theorem dX9_then_67 : decode cX9_then 67 = .ok (.aload_n 0, 1) := by decide +kernel
theorem dX9_then_68 : decode cX9_then 68 = .ok (.iload_n 2, 1) := by decide +kernel
theorem dX9_then_69 : decode cX9_then 69 = .ok (.iconst 2, 1) := by decide +kernel
theorem dX9_then_70 : decode cX9_then 70 = .ok (.invokevirtual 179, 3) := by decide +kernel
theorem dX9_then_73 : decode cX9_then 73 = .ok (.invokevirtual 265, 3) := by decide +kernel
theorem dX9_then_76 : decode cX9_then 76 = .ok (.ireturn, 1) := by decide +kernel
theorem dX9_often_0 : decode cX9_often 0 = .ok (.aload_n 0, 1) := by decide +kernel
theorem dX9_often_1 : decode cX9_often 1 = .ok (.iload_n 1, 1) := by decide +kernel
theorem dX9_often_2 : decode cX9_often 2 = .ok (.invokevirtual 227, 3) := by decide +kernel
theorem dX9_often_5 : decode cX9_often 5 = .ok (.ifCond .eq 13, 3) := by decide +kernel
theorem dX9_often_8 : decode cX9_often 8 = .ok (.iload_n 2, 1) := by decide +kernel
theorem dX9_often_9 : decode cX9_often 9 = .ok (.iconst 1, 1) := by decide +kernel
theorem dX9_often_10 : decode cX9_often 10 = .ok (.bipush 100, 2) := by decide +kernel
theorem dX9_often_12 : decode cX9_often 12 = .ok (.invokestatic 76, 3) := by decide +kernel
theorem dX9_often_15 : decode cX9_often 15 = .ok (.ifCond .ne 10, 3) := by decide +kernel
theorem dX9_often_18 : decode cX9_often 18 = .ok (.aload_n 0, 1) := by decide +kernel
theorem dX9_often_19 : decode cX9_often 19 = .ok (.ldc 80, 2) := by decide +kernel
theorem dX9_often_21 : decode cX9_often 21 = .ok (.invokevirtual 81, 3) := by decide +kernel
theorem dX9_often_24 : decode cX9_often 24 = .ok (.ireturn, 1) := by decide +kernel
theorem dX9_often_25 : decode cX9_often 25 = .ok (.aload_n 0, 1) := by decide +kernel
theorem dX9_often_26 : decode cX9_often 26 = .ok (.getfield 9, 3) := by decide +kernel
theorem dX9_often_29 : decode cX9_often 29 = .ok (.iconst 0, 1) := by decide +kernel
theorem dX9_often_30 : decode cX9_often 30 = .ok (.iaload, 1) := by decide +kernel
theorem dX9_often_31 : decode cX9_often 31 = .ok (.istore_n 3, 1) := by decide +kernel
theorem dX9_often_32 : decode cX9_often 32 = .ok (.iconst 0, 1) := by decide +kernel
theorem dX9_often_33 : decode cX9_often 33 = .ok (.istore 4, 2) := by decide +kernel
theorem dX9_often_35 : decode cX9_often 35 = .ok (.iconst 0, 1) := by decide +kernel
theorem dX9_often_36 : decode cX9_often 36 = .ok (.istore 5, 2) := by decide +kernel
theorem dX9_often_38 : decode cX9_often 38 = .ok (.iload 5, 2) := by decide +kernel
theorem dX9_often_40 : decode cX9_often 40 = .ok (.iload_n 2, 1) := by decide +kernel
theorem dX9_often_41 : decode cX9_often 41 = .ok (.if_icmp .ge 51, 3) := by decide +kernel
theorem dX9_often_44 : decode cX9_often 44 = .ok (.iload 4, 2) := by decide +kernel
theorem dX9_often_46 : decode cX9_often 46 = .ok (.aload_n 0, 1) := by decide +kernel
theorem dX9_often_47 : decode cX9_often 47 = .ok (.iload_n 1, 1) := by decide +kernel
theorem dX9_often_48 : decode cX9_often 48 = .ok (.iconst 2, 1) := by decide +kernel
theorem dX9_often_49 : decode cX9_often 49 = .ok (.invokevirtual 179, 3) := by decide +kernel
theorem dX9_often_52 : decode cX9_often 52 = .ok (.aload_n 0, 1) := by decide +kernel
theorem dX9_often_53 : decode cX9_often 53 = .ok (.invokevirtual 195, 3) := by decide +kernel
theorem dX9_often_56 : decode cX9_often 56 = .ok (.iand, 1) := by decide +kernel
theorem dX9_often_57 : decode cX9_often 57 = .ok (.ifCond .eq 15, 3) := by decide +kernel
theorem dX9_often_60 : decode cX9_often 60 = .ok (.aload_n 0, 1) := by decide +kernel
theorem dX9_often_61 : decode cX9_often 61 = .ok (.iload_n 1, 1) := by decide +kernel
theorem dX9_often_62 : decode cX9_often 62 = .ok (.invokevirtual 224, 3) := by decide +kernel
theorem dX9_often_65 : decode cX9_often 65 = .ok (.ifCond .eq 7, 3) := by decide +kernel
theorem dX9_often_68 : decode cX9_often 68 = .ok (.iconst 1, 1) := by decide +kernel
theorem dX9_often_69 : decode cX9_often 69 = .ok (.goto 4, 3) := by decide +kernel
theorem dX9_often_72 : decode cX9_often 72 = .ok (.iconst 0, 1) := by decide +kernel
theorem dX9_often_73 : decode cX9_often 73 = .ok (.iadd, 1) := by decide +kernel
theorem dX9_often_74 : decode cX9_often 74 = .ok (.istore 4, 2) := by decide +kernel
theorem dX9_often_76 : decode cX9_often 76 = .ok (.aload_n 0, 1) := by decide +kernel
theorem dX9_often_77 : decode cX9_often 77 = .ok (.getfield 9, 3) := by decide +kernel
theorem dX9_often_80 : decode cX9_often 80 = .ok (.iconst 0, 1) := by decide +kernel
theorem dX9_often_81 : decode cX9_often 81 = .ok (.dup2, 1) := by decide +kernel
theorem dX9_often_82 : decode cX9_often 82 = .ok (.iaload, 1) := by decide +kernel
theorem dX9_often_83 : decode cX9_often 83 = .ok (.iconst 1, 1) := by decide +kernel
theorem dX9_often_84 : decode cX9_often 84 = .ok (.iadd, 1) := by decide +kernel
theorem dX9_often_85 : decode cX9_often 85 = .ok (.iastore, 1) := by decide +kernel
theorem dX9_often_86 : decode cX9_often 86 = .ok (.iinc 5 1, 3) := by decide +kernel
theorem dX9_often_89 : decode cX9_often 89 = .ok (.goto (-51), 3) := by decide +kernel
theorem dX9_often_92 : decode cX9_often 92 = .ok (.aload_n 0, 1) := by decide +kernel
theorem dX9_often_93 : decode cX9_often 93 = .ok (.getfield 9, 3) := by decide +kernel
theorem dX9_often_96 : decode cX9_often 96 = .ok (.iconst 0, 1) := by decide +kernel
theorem dX9_often_97 : decode cX9_often 97 = .ok (.iload_n 3, 1) := by decide +kernel
theorem dX9_often_98 : decode cX9_often 98 = .ok (.iastore, 1) := by decide +kernel
theorem dX9_often_99 : decode cX9_often 99 = .ok (.iload 4, 2) := by decide +kernel
theorem dX9_often_101 : decode cX9_often 101 = .ok (.ireturn, 1) := by decide +kernel
theorem dX9_whole_0 : decode cX9_whole 0 = .ok (.aload_n 0, 1) := by decide +kernel
theorem dX9_whole_1 : decode cX9_whole 1 = .ok (.iload_n 1, 1) := by decide +kernel
theorem dX9_whole_2 : decode cX9_whole 2 = .ok (.invokevirtual 227, 3) := by decide +kernel
theorem dX9_whole_5 : decode cX9_whole 5 = .ok (.ifCond .ne 10, 3) := by decide +kernel
theorem dX9_whole_8 : decode cX9_whole 8 = .ok (.aload_n 0, 1) := by decide +kernel
theorem dX9_whole_9 : decode cX9_whole 9 = .ok (.ldc 80, 2) := by decide +kernel
theorem dX9_whole_11 : decode cX9_whole 11 = .ok (.invokevirtual 81, 3) := by decide +kernel
theorem dX9_whole_14 : decode cX9_whole 14 = .ok (.ireturn, 1) := by decide +kernel
theorem dX9_whole_15 : decode cX9_whole 15 = .ok (.aload_n 0, 1) := by decide +kernel
theorem dX9_whole_16 : decode cX9_whole 16 = .ok (.iload_n 1, 1) := by decide +kernel
theorem dX9_whole_17 : decode cX9_whole 17 = .ok (.iconst 2, 1) := by decide +kernel
theorem dX9_whole_18 : decode cX9_whole 18 = .ok (.invokevirtual 179, 3) := by decide +kernel
theorem dX9_whole_21 : decode cX9_whole 21 = .ok (.istore_n 2, 1) := by decide +kernel
theorem dX9_whole_22 : decode cX9_whole 22 = .ok (.iload_n 2, 1) := by decide +kernel
theorem dX9_whole_23 : decode cX9_whole 23 = .ok (.ifCond .ne 10, 3) := by decide +kernel
theorem dX9_whole_26 : decode cX9_whole 26 = .ok (.aload_n 0, 1) := by decide +kernel
theorem dX9_whole_27 : decode cX9_whole 27 = .ok (.ldc 242, 2) := by decide +kernel
theorem dX9_whole_29 : decode cX9_whole 29 = .ok (.invokevirtual 81, 3) := by decide +kernel
theorem dX9_whole_32 : decode cX9_whole 32 = .ok (.ireturn, 1) := by decide +kernel
theorem dX9_whole_33 : decode cX9_whole 33 = .ok (.aload_n 0, 1) := by decide +kernel
theorem dX9_whole_34 : decode cX9_whole 34 = .ok (.getfield 9, 3) := by decide +kernel
theorem dX9_whole_37 : decode cX9_whole 37 = .ok (.iconst 0, 1) := by decide +kernel
theorem dX9_whole_38 : decode cX9_whole 38 = .ok (.iaload, 1) := by decide +kernel
theorem dX9_whole_39 : decode cX9_whole 39 = .ok (.istore_n 3, 1) := by decide +kernel
theorem dX9_whole_40 : decode cX9_whole 40 = .ok (.iconst (-1), 1) := by decide +kernel
theorem dX9_whole_41 : decode cX9_whole 41 = .ok (.istore 4, 2) := by decide +kernel
theorem dX9_whole_43 : decode cX9_whole 43 = .ok (.iconst 0, 1) := by decide +kernel
theorem dX9_whole_44 : decode cX9_whole 44 = .ok (.istore 5, 2) := by decide +kernel
theorem dX9_whole_46 : decode cX9_whole 46 = .ok (.iload 5, 2) := by decide +kernel
theorem dX9_whole_48 : decode cX9_whole 48 = .ok (.bipush 100, 2) := by decide +kernel
theorem dX9_whole_50 : decode cX9_whole 50 = .ok (.if_icmp .gt 42, 3) := by decide +kernel
theorem dX9_whole_53 : decode cX9_whole 53 = .ok (.iload 4, 2) := by decide +kernel
theorem dX9_whole_55 : decode cX9_whole 55 = .ok (.ifCond .ge 37, 3) := by decide +kernel
theorem dX9_whole_58 : decode cX9_whole 58 = .ok (.iload_n 2, 1) := by decide +kernel
theorem dX9_whole_59 : decode cX9_whole 59 = .ok (.aload_n 0, 1) := by decide +kernel
theorem dX9_whole_60 : decode cX9_whole 60 = .ok (.invokevirtual 195, 3) := by decide +kernel
theorem dX9_whole_63 : decode cX9_whole 63 = .ok (.iand, 1) := by decide +kernel
theorem dX9_whole_64 : decode cX9_whole 64 = .ok (.iload_n 2, 1) := by decide +kernel
theorem dX9_whole_65 : decode cX9_whole 65 = .ok (.if_icmp .ne 8, 3) := by decide +kernel
theorem dX9_whole_68 : decode cX9_whole 68 = .ok (.iload 5, 2) := by decide +kernel
theorem dX9_whole_70 : decode cX9_whole 70 = .ok (.goto 4, 3) := by decide +kernel
theorem dX9_whole_73 : decode cX9_whole 73 = .ok (.iconst (-1), 1) := by decide +kernel
theorem dX9_whole_74 : decode cX9_whole 74 = .ok (.istore 4, 2) := by decide +kernel
theorem dX9_whole_76 : decode cX9_whole 76 = .ok (.aload_n 0, 1) := by decide +kernel
theorem dX9_whole_77 : decode cX9_whole 77 = .ok (.getfield 9, 3) := by decide +kernel
theorem dX9_whole_80 : decode cX9_whole 80 = .ok (.iconst 0, 1) := by decide +kernel
theorem dX9_whole_81 : decode cX9_whole 81 = .ok (.dup2, 1) := by decide +kernel
theorem dX9_whole_82 : decode cX9_whole 82 = .ok (.iaload, 1) := by decide +kernel
theorem dX9_whole_83 : decode cX9_whole 83 = .ok (.iconst 1, 1) := by decide +kernel
theorem dX9_whole_84 : decode cX9_whole 84 = .ok (.iadd, 1) := by decide +kernel
theorem dX9_whole_85 : decode cX9_whole 85 = .ok (.iastore, 1) := by decide +kernel
theorem dX9_whole_86 : decode cX9_whole 86 = .ok (.iinc 5 1, 3) := by decide +kernel
theorem dX9_whole_89 : decode cX9_whole 89 = .ok (.goto (-43), 3) := by decide +kernel
theorem dX9_whole_92 : decode cX9_whole 92 = .ok (.aload_n 0, 1) := by decide +kernel
theorem dX9_whole_93 : decode cX9_whole 93 = .ok (.getfield 9, 3) := by decide +kernel
theorem dX9_whole_96 : decode cX9_whole 96 = .ok (.iconst 0, 1) := by decide +kernel
theorem dX9_whole_97 : decode cX9_whole 97 = .ok (.iload_n 3, 1) := by decide +kernel
theorem dX9_whole_98 : decode cX9_whole 98 = .ok (.iastore, 1) := by decide +kernel
theorem dX9_whole_99 : decode cX9_whole 99 = .ok (.iload 4, 2) := by decide +kernel
theorem dX9_whole_101 : decode cX9_whole 101 = .ok (.ifCond .ge 13, 3) := by decide +kernel
theorem dX9_whole_104 : decode cX9_whole 104 = .ok (.aload_n 0, 1) := by decide +kernel
theorem dX9_whole_105 : decode cX9_whole 105 = .ok (.ldc_w 268, 3) := by decide +kernel
theorem dX9_whole_108 : decode cX9_whole 108 = .ok (.invokevirtual 81, 3) := by decide +kernel
theorem dX9_whole_111 : decode cX9_whole 111 = .ok (.goto 5, 3) := by decide +kernel
theorem dX9_whole_114 : decode cX9_whole 114 = .ok (.iload 4, 2) := by decide +kernel
theorem dX9_whole_116 : decode cX9_whole 116 = .ok (.ireturn, 1) := by decide +kernel
theorem dX9_stays_0 : decode cX9_stays 0 = .ok (.aload_n 0, 1) := by decide +kernel
theorem dX9_stays_1 : decode cX9_stays 1 = .ok (.iload_n 1, 1) := by decide +kernel
theorem dX9_stays_2 : decode cX9_stays 2 = .ok (.invokevirtual 227, 3) := by decide +kernel
theorem dX9_stays_5 : decode cX9_stays 5 = .ok (.ifCond .ne 10, 3) := by decide +kernel
theorem dX9_stays_8 : decode cX9_stays 8 = .ok (.aload_n 0, 1) := by decide +kernel
theorem dX9_stays_9 : decode cX9_stays 9 = .ok (.ldc 80, 2) := by decide +kernel
theorem dX9_stays_11 : decode cX9_stays 11 = .ok (.invokevirtual 81, 3) := by decide +kernel
theorem dX9_stays_14 : decode cX9_stays 14 = .ok (.ireturn, 1) := by decide +kernel
theorem dX9_stays_15 : decode cX9_stays 15 = .ok (.aload_n 0, 1) := by decide +kernel
theorem dX9_stays_16 : decode cX9_stays 16 = .ok (.iload_n 1, 1) := by decide +kernel
theorem dX9_stays_17 : decode cX9_stays 17 = .ok (.invokevirtual 239, 3) := by decide +kernel
theorem dX9_stays_20 : decode cX9_stays 20 = .ok (.ifCond .eq 10, 3) := by decide +kernel
theorem dX9_stays_23 : decode cX9_stays 23 = .ok (.aload_n 0, 1) := by decide +kernel
theorem dX9_stays_24 : decode cX9_stays 24 = .ok (.ldc 242, 2) := by decide +kernel
theorem dX9_stays_26 : decode cX9_stays 26 = .ok (.invokevirtual 81, 3) := by decide +kernel
theorem dX9_stays_29 : decode cX9_stays 29 = .ok (.ireturn, 1) := by decide +kernel
theorem dX9_stays_30 : decode cX9_stays 30 = .ok (.aload_n 0, 1) := by decide +kernel
theorem dX9_stays_31 : decode cX9_stays 31 = .ok (.getfield 9, 3) := by decide +kernel
theorem dX9_stays_34 : decode cX9_stays 34 = .ok (.aload_n 0, 1) := by decide +kernel
theorem dX9_stays_35 : decode cX9_stays 35 = .ok (.getfield 16, 3) := by decide +kernel
theorem dX9_stays_38 : decode cX9_stays 38 = .ok (.invokestatic 72, 3) := by decide +kernel
theorem dX9_stays_41 : decode cX9_stays 41 = .ok (.iconst 0, 1) := by decide +kernel
theorem dX9_stays_42 : decode cX9_stays 42 = .ok (.istore_n 2, 1) := by decide +kernel
theorem dX9_stays_43 : decode cX9_stays 43 = .ok (.iload_n 2, 1) := by decide +kernel
theorem dX9_stays_44 : decode cX9_stays 44 = .ok (.bipush 100, 2) := by decide +kernel
theorem dX9_stays_46 : decode cX9_stays 46 = .ok (.if_icmp .ge 21, 3) := by decide +kernel
theorem dX9_stays_49 : decode cX9_stays 49 = .ok (.aload_n 0, 1) := by decide +kernel
theorem dX9_stays_50 : decode cX9_stays 50 = .ok (.iload_n 1, 1) := by decide +kernel
theorem dX9_stays_51 : decode cX9_stays 51 = .ok (.invokevirtual 239, 3) := by decide +kernel
theorem dX9_stays_54 : decode cX9_stays 54 = .ok (.ifCond .ne 13, 3) := by decide +kernel
theorem dX9_stays_57 : decode cX9_stays 57 = .ok (.aload_n 0, 1) := by decide +kernel
theorem dX9_stays_58 : decode cX9_stays 58 = .ok (.invokevirtual 252, 3) := by decide +kernel
theorem dX9_stays_61 : decode cX9_stays 61 = .ok (.iinc 2 1, 3) := by decide +kernel
theorem dX9_stays_64 : decode cX9_stays 64 = .ok (.goto (-21), 3) := by decide +kernel
theorem dX9_stays_67 : decode cX9_stays 67 = .ok (.aload_n 0, 1) := by decide +kernel
theorem dX9_stays_68 : decode cX9_stays 68 = .ok (.iload_n 1, 1) := by decide +kernel
theorem dX9_stays_69 : decode cX9_stays 69 = .ok (.invokevirtual 239, 3) := by decide +kernel
theorem dX9_stays_72 : decode cX9_stays 72 = .ok (.istore_n 3, 1) := by decide +kernel
theorem dX9_stays_73 : decode cX9_stays 73 = .ok (.aload_n 0, 1) := by decide +kernel
theorem dX9_stays_74 : decode cX9_stays 74 = .ok (.getfield 16, 3) := by decide +kernel
theorem dX9_stays_77 : decode cX9_stays 77 = .ok (.aload_n 0, 1) := by decide +kernel
theorem dX9_stays_78 : decode cX9_stays 78 = .ok (.getfield 9, 3) := by decide +kernel
theorem dX9_stays_81 : decode cX9_stays 81 = .ok (.invokestatic 72, 3) := by decide +kernel
theorem dX9_stays_84 : decode cX9_stays 84 = .ok (.iload_n 3, 1) := by decide +kernel
theorem dX9_stays_85 : decode cX9_stays 85 = .ok (.ifCond .eq 7, 3) := by decide +kernel
theorem dX9_stays_88 : decode cX9_stays 88 = .ok (.iload_n 2, 1) := by decide +kernel
theorem dX9_stays_89 : decode cX9_stays 89 = .ok (.goto 10, 3) := by decide +kernel
theorem dX9_stays_92 : decode cX9_stays 92 = .ok (.aload_n 0, 1) := by decide +kernel
theorem dX9_stays_93 : decode cX9_stays 93 = .ok (.ldc_w 268, 3) := by decide +kernel
theorem dX9_stays_96 : decode cX9_stays 96 = .ok (.invokevirtual 81, 3) := by decide +kernel
theorem dX9_stays_99 : decode cX9_stays 99 = .ok (.ireturn, 1) := by decide +kernel
theorem dX9_clashes_0 : decode cX9_clashes 0 = .ok (.aload_n 0, 1) := by decide +kernel
theorem dX9_clashes_1 : decode cX9_clashes 1 = .ok (.iload_n 1, 1) := by decide +kernel
theorem dX9_clashes_2 : decode cX9_clashes 2 = .ok (.iconst 0, 1) := by decide +kernel
theorem dX9_clashes_3 : decode cX9_clashes 3 = .ok (.invokevirtual 179, 3) := by decide +kernel
theorem dX9_clashes_6 : decode cX9_clashes 6 = .ok (.iconst 4, 1) := by decide +kernel
theorem dX9_clashes_7 : decode cX9_clashes 7 = .ok (.if_icmp .ne 17, 3) := by decide +kernel
theorem dX9_clashes_10 : decode cX9_clashes 10 = .ok (.aload_n 0, 1) := by decide +kernel
theorem dX9_clashes_11 : decode cX9_clashes 11 = .ok (.iload_n 2, 1) := by decide +kernel
theorem dX9_clashes_12 : decode cX9_clashes 12 = .ok (.iconst 0, 1) := by decide +kernel
theorem dX9_clashes_13 : decode cX9_clashes 13 = .ok (.invokevirtual 179, 3) := by decide +kernel
theorem dX9_clashes_16 : decode cX9_clashes 16 = .ok (.iconst 4, 1) := by decide +kernel
theorem dX9_clashes_17 : decode cX9_clashes 17 = .ok (.if_icmp .ne 7, 3) := by decide +kernel
theorem dX9_clashes_20 : decode cX9_clashes 20 = .ok (.iconst 1, 1) := by decide +kernel
theorem dX9_clashes_21 : decode cX9_clashes 21 = .ok (.goto 4, 3) := by decide +kernel
theorem dX9_clashes_24 : decode cX9_clashes 24 = .ok (.iconst 0, 1) := by decide +kernel
theorem dX9_clashes_25 : decode cX9_clashes 25 = .ok (.istore_n 3, 1) := by decide +kernel
theorem dX9_clashes_26 : decode cX9_clashes 26 = .ok (.iload_n 3, 1) := by decide +kernel
theorem dX9_clashes_27 : decode cX9_clashes 27 = .ok (.ifCond .ne 23, 3) := by decide +kernel
theorem dX9_clashes_30 : decode cX9_clashes 30 = .ok (.aload_n 0, 1) := by decide +kernel
theorem dX9_clashes_31 : decode cX9_clashes 31 = .ok (.iload_n 1, 1) := by decide +kernel
theorem dX9_clashes_32 : decode cX9_clashes 32 = .ok (.iconst 2, 1) := by decide +kernel
theorem dX9_clashes_33 : decode cX9_clashes 33 = .ok (.invokevirtual 179, 3) := by decide +kernel
theorem dX9_clashes_36 : decode cX9_clashes 36 = .ok (.aload_n 0, 1) := by decide +kernel
theorem dX9_clashes_37 : decode cX9_clashes 37 = .ok (.iload_n 2, 1) := by decide +kernel
theorem dX9_clashes_38 : decode cX9_clashes 38 = .ok (.iconst 2, 1) := by decide +kernel
theorem dX9_clashes_39 : decode cX9_clashes 39 = .ok (.invokevirtual 179, 3) := by decide +kernel
theorem dX9_clashes_42 : decode cX9_clashes 42 = .ok (.iand, 1) := by decide +kernel
theorem dX9_clashes_43 : decode cX9_clashes 43 = .ok (.ifCond .eq 7, 3) := by decide +kernel
theorem dX9_clashes_46 : decode cX9_clashes 46 = .ok (.iconst 1, 1) := by decide +kernel
theorem dX9_clashes_47 : decode cX9_clashes 47 = .ok (.goto 4, 3) := by decide +kernel
theorem dX9_clashes_50 : decode cX9_clashes 50 = .ok (.iconst 0, 1) := by decide +kernel
theorem dX9_clashes_51 : decode cX9_clashes 51 = .ok (.ireturn, 1) := by decide +kernel
theorem dX9_clashBut_0 : decode cX9_clashBut 0 = .ok (.iconst 0, 1) := by decide +kernel
theorem dX9_clashBut_1 : decode cX9_clashBut 1 = .ok (.istore_n 2, 1) := by decide +kernel
theorem dX9_clashBut_2 : decode cX9_clashBut 2 = .ok (.iconst 0, 1) := by decide +kernel
theorem dX9_clashBut_3 : decode cX9_clashBut 3 = .ok (.istore_n 3, 1) := by decide +kernel
theorem dX9_clashBut_4 : decode cX9_clashBut 4 = .ok (.iload_n 3, 1) := by decide +kernel
theorem dX9_clashBut_5 : decode cX9_clashBut 5 = .ok (.aload_n 0, 1) := by decide +kernel
theorem dX9_clashBut_6 : decode cX9_clashBut 6 = .ok (.getfield 9, 3) := by decide +kernel
theorem dX9_clashBut_9 : decode cX9_clashBut 9 = .ok (.iconst 1, 1) := by decide +kernel
theorem dX9_clashBut_10 : decode cX9_clashBut 10 = .ok (.iaload, 1) := by decide +kernel
theorem dX9_clashBut_11 : decode cX9_clashBut 11 = .ok (.if_icmp .ge 59, 3) := by decide +kernel
theorem dX9_clashBut_14 : decode cX9_clashBut 14 = .ok (.iconst 0, 1) := by decide +kernel
theorem dX9_clashBut_15 : decode cX9_clashBut 15 = .ok (.istore 4, 2) := by decide +kernel
theorem dX9_clashBut_17 : decode cX9_clashBut 17 = .ok (.iload 4, 2) := by decide +kernel
theorem dX9_clashBut_19 : decode cX9_clashBut 19 = .ok (.iload_n 3, 1) := by decide +kernel
theorem dX9_clashBut_20 : decode cX9_clashBut 20 = .ok (.if_icmp .ge 44, 3) := by decide +kernel
theorem dX9_clashBut_23 : decode cX9_clashBut 23 = .ok (.iload_n 2, 1) := by decide +kernel
theorem dX9_clashBut_24 : decode cX9_clashBut 24 = .ok (.iload_n 1, 1) := by decide +kernel
theorem dX9_clashBut_25 : decode cX9_clashBut 25 = .ok (.iload_n 3, 1) := by decide +kernel
theorem dX9_clashBut_26 : decode cX9_clashBut 26 = .ok (.invokestatic 182, 3) := by decide +kernel
theorem dX9_clashBut_29 : decode cX9_clashBut 29 = .ok (.ifCond .ne 26, 3) := by decide +kernel
theorem dX9_clashBut_32 : decode cX9_clashBut 32 = .ok (.iload_n 1, 1) := by decide +kernel
theorem dX9_clashBut_33 : decode cX9_clashBut 33 = .ok (.iload 4, 2) := by decide +kernel
theorem dX9_clashBut_35 : decode cX9_clashBut 35 = .ok (.invokestatic 182, 3) := by decide +kernel
theorem dX9_clashBut_38 : decode cX9_clashBut 38 = .ok (.ifCond .ne 17, 3) := by decide +kernel
theorem dX9_clashBut_41 : decode cX9_clashBut 41 = .ok (.aload_n 0, 1) := by decide +kernel
theorem dX9_clashBut_42 : decode cX9_clashBut 42 = .ok (.iload_n 3, 1) := by decide +kernel
theorem dX9_clashBut_43 : decode cX9_clashBut 43 = .ok (.iload 4, 2) := by decide +kernel
theorem dX9_clashBut_45 : decode cX9_clashBut 45 = .ok (.invokevirtual 269, 3) := by decide +kernel
theorem dX9_clashBut_48 : decode cX9_clashBut 48 = .ok (.ifCond .eq 7, 3) := by decide +kernel
theorem dX9_clashBut_51 : decode cX9_clashBut 51 = .ok (.iconst 1, 1) := by decide +kernel
theorem dX9_clashBut_52 : decode cX9_clashBut 52 = .ok (.goto 4, 3) := by decide +kernel
theorem dX9_clashBut_55 : decode cX9_clashBut 55 = .ok (.iconst 0, 1) := by decide +kernel
theorem dX9_clashBut_56 : decode cX9_clashBut 56 = .ok (.iadd, 1) := by decide +kernel
theorem dX9_clashBut_57 : decode cX9_clashBut 57 = .ok (.istore_n 2, 1) := by decide +kernel
theorem dX9_clashBut_58 : decode cX9_clashBut 58 = .ok (.iinc 4 1, 3) := by decide +kernel
theorem dX9_clashBut_61 : decode cX9_clashBut 61 = .ok (.goto (-44), 3) := by decide +kernel
theorem dX9_clashBut_64 : decode cX9_clashBut 64 = .ok (.iinc 3 1, 3) := by decide +kernel
theorem dX9_clashBut_67 : decode cX9_clashBut 67 = .ok (.goto (-63), 3) := by decide +kernel
theorem dX9_clashBut_70 : decode cX9_clashBut 70 = .ok (.iload_n 2, 1) := by decide +kernel
theorem dX9_clashBut_71 : decode cX9_clashBut 71 = .ok (.ireturn, 1) := by decide +kernel
theorem dX9_clash_0 : decode cX9_clash 0 = .ok (.aload_n 0, 1) := by decide +kernel
theorem dX9_clash_1 : decode cX9_clash 1 = .ok (.iconst 0, 1) := by decide +kernel
theorem dX9_clash_2 : decode cX9_clash 2 = .ok (.invokevirtual 272, 3) := by decide +kernel
theorem dX9_clash_5 : decode cX9_clash 5 = .ok (.ireturn, 1) := by decide +kernel
theorem dX9_least_0 : decode cX9_least 0 = .ok (.iload_n 1, 1) := by decide +kernel
theorem dX9_least_1 : decode cX9_least 1 = .ok (.iconst 0, 1) := by decide +kernel
theorem dX9_least_2 : decode cX9_least 2 = .ok (.iconst 1, 1) := by decide +kernel
theorem dX9_least_3 : decode cX9_least 3 = .ok (.invokestatic 76, 3) := by decide +kernel
theorem dX9_least_6 : decode cX9_least 6 = .ok (.ifCond .ne 10, 3) := by decide +kernel
theorem dX9_least_9 : decode cX9_least 9 = .ok (.aload_n 0, 1) := by decide +kernel
theorem dX9_least_10 : decode cX9_least 10 = .ok (.ldc 80, 2) := by decide +kernel
theorem dX9_least_12 : decode cX9_least 12 = .ok (.invokevirtual 81, 3) := by decide +kernel
theorem dX9_least_15 : decode cX9_least 15 = .ok (.ireturn, 1) := by decide +kernel
theorem dX9_least_16 : decode cX9_least 16 = .ok (.iconst (-1), 1) := by decide +kernel
theorem dX9_least_17 : decode cX9_least 17 = .ok (.istore_n 2, 1) := by decide +kernel
theorem dX9_least_18 : decode cX9_least 18 = .ok (.iconst 0, 1) := by decide +kernel
theorem dX9_least_19 : decode cX9_least 19 = .ok (.istore_n 3, 1) := by decide +kernel
theorem dX9_least_20 : decode cX9_least 20 = .ok (.iload_n 3, 1) := by decide +kernel
theorem dX9_least_21 : decode cX9_least 21 = .ok (.iconst 1, 1) := by decide +kernel
theorem dX9_least_22 : decode cX9_least 22 = .ok (.aload_n 0, 1) := by decide +kernel
theorem dX9_least_23 : decode cX9_least 23 = .ok (.getfield 9, 3) := by decide +kernel
theorem dX9_least_26 : decode cX9_least 26 = .ok (.iconst 1, 1) := by decide +kernel
theorem dX9_least_27 : decode cX9_least 27 = .ok (.iaload, 1) := by decide +kernel
theorem dX9_least_28 : decode cX9_least 28 = .ok (.ishl, 1) := by decide +kernel
theorem dX9_least_29 : decode cX9_least 29 = .ok (.if_icmp .ge 38, 3) := by decide +kernel
theorem dX9_least_32 : decode cX9_least 32 = .ok (.iload_n 2, 1) := by decide +kernel
theorem dX9_least_33 : decode cX9_least 33 = .ok (.ifCond .lt 14, 3) := by decide +kernel
theorem dX9_least_36 : decode cX9_least 36 = .ok (.iload_n 3, 1) := by decide +kernel
theorem dX9_least_37 : decode cX9_least 37 = .ok (.invokestatic 189, 3) := by decide +kernel
theorem dX9_least_40 : decode cX9_least 40 = .ok (.iload_n 2, 1) := by decide +kernel
theorem dX9_least_41 : decode cX9_least 41 = .ok (.invokestatic 189, 3) := by decide +kernel
theorem dX9_least_44 : decode cX9_least 44 = .ok (.if_icmp .ge 15, 3) := by decide +kernel
theorem dX9_least_47 : decode cX9_least 47 = .ok (.aload_n 0, 1) := by decide +kernel
theorem dX9_least_48 : decode cX9_least 48 = .ok (.iload_n 3, 1) := by decide +kernel
theorem dX9_least_49 : decode cX9_least 49 = .ok (.invokevirtual 272, 3) := by decide +kernel
theorem dX9_least_52 : decode cX9_least 52 = .ok (.ifCond .ne 7, 3) := by decide +kernel
theorem dX9_least_55 : decode cX9_least 55 = .ok (.iload_n 3, 1) := by decide +kernel
theorem dX9_least_56 : decode cX9_least 56 = .ok (.goto 4, 3) := by decide +kernel
theorem dX9_least_59 : decode cX9_least 59 = .ok (.iload_n 2, 1) := by decide +kernel
theorem dX9_least_60 : decode cX9_least 60 = .ok (.istore_n 2, 1) := by decide +kernel
theorem dX9_least_61 : decode cX9_least 61 = .ok (.iinc 3 1, 3) := by decide +kernel
theorem dX9_least_64 : decode cX9_least 64 = .ok (.goto (-44), 3) := by decide +kernel
theorem dX9_least_67 : decode cX9_least 67 = .ok (.iload_n 1, 1) := by decide +kernel
theorem dX9_least_68 : decode cX9_least 68 = .ok (.ifCond .ne 10, 3) := by decide +kernel
theorem dX9_least_71 : decode cX9_least 71 = .ok (.iload_n 2, 1) := by decide +kernel
theorem dX9_least_72 : decode cX9_least 72 = .ok (.invokestatic 189, 3) := by decide +kernel
theorem dX9_least_75 : decode cX9_least 75 = .ok (.goto 4, 3) := by decide +kernel
theorem dX9_least_78 : decode cX9_least 78 = .ok (.iload_n 2, 1) := by decide +kernel
theorem dX9_least_79 : decode cX9_least 79 = .ok (.ireturn, 1) := by decide +kernel
theorem dX9_beside_0 : decode cX9_beside 0 = .ok (.aload_n 0, 1) := by decide +kernel
theorem dX9_beside_1 : decode cX9_beside 1 = .ok (.iload_n 1, 1) := by decide +kernel
theorem dX9_beside_2 : decode cX9_beside 2 = .ok (.invokevirtual 227, 3) := by decide +kernel
theorem dX9_beside_5 : decode cX9_beside 5 = .ok (.ifCond .ne 10, 3) := by decide +kernel
theorem dX9_beside_8 : decode cX9_beside 8 = .ok (.aload_n 0, 1) := by decide +kernel
theorem dX9_beside_9 : decode cX9_beside 9 = .ok (.ldc 80, 2) := by decide +kernel
theorem dX9_beside_11 : decode cX9_beside 11 = .ok (.invokevirtual 81, 3) := by decide +kernel
theorem dX9_beside_14 : decode cX9_beside 14 = .ok (.ireturn, 1) := by decide +kernel
theorem dX9_beside_15 : decode cX9_beside 15 = .ok (.aload_n 0, 1) := by decide +kernel
theorem dX9_beside_16 : decode cX9_beside 16 = .ok (.iload_n 1, 1) := by decide +kernel
theorem dX9_beside_17 : decode cX9_beside 17 = .ok (.iconst 2, 1) := by decide +kernel
theorem dX9_beside_18 : decode cX9_beside 18 = .ok (.invokevirtual 179, 3) := by decide +kernel
theorem dX9_beside_21 : decode cX9_beside 21 = .ok (.istore_n 2, 1) := by decide +kernel
theorem dX9_beside_22 : decode cX9_beside 22 = .ok (.iconst 0, 1) := by decide +kernel
theorem dX9_beside_23 : decode cX9_beside 23 = .ok (.istore_n 3, 1) := by decide +kernel
theorem dX9_beside_24 : decode cX9_beside 24 = .ok (.iconst 0, 1) := by decide +kernel
theorem dX9_beside_25 : decode cX9_beside 25 = .ok (.istore 4, 2) := by decide +kernel
theorem dX9_beside_27 : decode cX9_beside 27 = .ok (.iload 4, 2) := by decide +kernel
theorem dX9_beside_29 : decode cX9_beside 29 = .ok (.aload_n 0, 1) := by decide +kernel
theorem dX9_beside_30 : decode cX9_beside 30 = .ok (.getfield 9, 3) := by decide +kernel
theorem dX9_beside_33 : decode cX9_beside 33 = .ok (.iconst 1, 1) := by decide +kernel
theorem dX9_beside_34 : decode cX9_beside 34 = .ok (.iaload, 1) := by decide +kernel
theorem dX9_beside_35 : decode cX9_beside 35 = .ok (.if_icmp .ge 29, 3) := by decide +kernel
theorem dX9_beside_38 : decode cX9_beside 38 = .ok (.iload_n 3, 1) := by decide +kernel
theorem dX9_beside_39 : decode cX9_beside 39 = .ok (.iload 4, 2) := by decide +kernel
theorem dX9_beside_41 : decode cX9_beside 41 = .ok (.iload_n 1, 1) := by decide +kernel
theorem dX9_beside_42 : decode cX9_beside 42 = .ok (.if_icmp .ne 7, 3) := by decide +kernel
theorem dX9_beside_45 : decode cX9_beside 45 = .ok (.iconst 0, 1) := by decide +kernel
theorem dX9_beside_46 : decode cX9_beside 46 = .ok (.goto 10, 3) := by decide +kernel
theorem dX9_beside_49 : decode cX9_beside 49 = .ok (.aload_n 0, 1) := by decide +kernel
theorem dX9_beside_50 : decode cX9_beside 50 = .ok (.iload 4, 2) := by decide +kernel
theorem dX9_beside_52 : decode cX9_beside 52 = .ok (.iconst 2, 1) := by decide +kernel
theorem dX9_beside_53 : decode cX9_beside 53 = .ok (.invokevirtual 179, 3) := by decide +kernel
theorem dX9_beside_56 : decode cX9_beside 56 = .ok (.ior, 1) := by decide +kernel
theorem dX9_beside_57 : decode cX9_beside 57 = .ok (.istore_n 3, 1) := by decide +kernel
theorem dX9_beside_58 : decode cX9_beside 58 = .ok (.iinc 4 1, 3) := by decide +kernel
theorem dX9_beside_61 : decode cX9_beside 61 = .ok (.goto (-34), 3) := by decide +kernel
theorem dX9_beside_64 : decode cX9_beside 64 = .ok (.iconst 0, 1) := by decide +kernel
theorem dX9_beside_65 : decode cX9_beside 65 = .ok (.istore 4, 2) := by decide +kernel
theorem dX9_beside_67 : decode cX9_beside 67 = .ok (.iconst 0, 1) := by decide +kernel
theorem dX9_beside_68 : decode cX9_beside 68 = .ok (.istore 5, 2) := by decide +kernel
theorem dX9_beside_70 : decode cX9_beside 70 = .ok (.iload 5, 2) := by decide +kernel
theorem dX9_beside_72 : decode cX9_beside 72 = .ok (.bipush 24, 2) := by decide +kernel
theorem dX9_beside_74 : decode cX9_beside 74 = .ok (.if_icmp .ge 130, 3) := by decide +kernel
theorem dX9_beside_77 : decode cX9_beside 77 = .ok (.iload 5, 2) := by decide +kernel
theorem dX9_beside_79 : decode cX9_beside 79 = .ok (.bipush 8, 2) := by decide +kernel
theorem dX9_beside_81 : decode cX9_beside 81 = .ok (.if_icmp .lt 15, 3) := by decide +kernel
theorem dX9_beside_84 : decode cX9_beside 84 = .ok (.iload_n 2, 1) := by decide +kernel
theorem dX9_beside_85 : decode cX9_beside 85 = .ok (.iload 5, 2) := by decide +kernel
theorem dX9_beside_87 : decode cX9_beside 87 = .ok (.bipush 8, 2) := by decide +kernel
theorem dX9_beside_89 : decode cX9_beside 89 = .ok (.isub, 1) := by decide +kernel
theorem dX9_beside_90 : decode cX9_beside 90 = .ok (.invokestatic 182, 3) := by decide +kernel
theorem dX9_beside_93 : decode cX9_beside 93 = .ok (.ifCond .ne 62, 3) := by decide +kernel
theorem dX9_beside_96 : decode cX9_beside 96 = .ok (.iload 5, 2) := by decide +kernel
theorem dX9_beside_98 : decode cX9_beside 98 = .ok (.bipush 16, 2) := by decide +kernel
theorem dX9_beside_100 : decode cX9_beside 100 = .ok (.if_icmp .ge 15, 3) := by decide +kernel
theorem dX9_beside_103 : decode cX9_beside 103 = .ok (.iload_n 2, 1) := by decide +kernel
theorem dX9_beside_104 : decode cX9_beside 104 = .ok (.iload 5, 2) := by decide +kernel
theorem dX9_beside_106 : decode cX9_beside 106 = .ok (.bipush 8, 2) := by decide +kernel
theorem dX9_beside_108 : decode cX9_beside 108 = .ok (.iadd, 1) := by decide +kernel
theorem dX9_beside_109 : decode cX9_beside 109 = .ok (.invokestatic 182, 3) := by decide +kernel
theorem dX9_beside_112 : decode cX9_beside 112 = .ok (.ifCond .ne 43, 3) := by decide +kernel
theorem dX9_beside_115 : decode cX9_beside 115 = .ok (.iload 5, 2) := by decide +kernel
theorem dX9_beside_117 : decode cX9_beside 117 = .ok (.bipush 8, 2) := by decide +kernel
theorem dX9_beside_119 : decode cX9_beside 119 = .ok (.irem, 1) := by decide +kernel
theorem dX9_beside_120 : decode cX9_beside 120 = .ok (.ifCond .le 14, 3) := by decide +kernel
theorem dX9_beside_123 : decode cX9_beside 123 = .ok (.iload_n 2, 1) := by decide +kernel
theorem dX9_beside_124 : decode cX9_beside 124 = .ok (.iload 5, 2) := by decide +kernel
theorem dX9_beside_126 : decode cX9_beside 126 = .ok (.iconst 1, 1) := by decide +kernel
theorem dX9_beside_127 : decode cX9_beside 127 = .ok (.isub, 1) := by decide +kernel
theorem dX9_beside_128 : decode cX9_beside 128 = .ok (.invokestatic 182, 3) := by decide +kernel
theorem dX9_beside_131 : decode cX9_beside 131 = .ok (.ifCond .ne 24, 3) := by decide +kernel
theorem dX9_beside_134 : decode cX9_beside 134 = .ok (.iload 5, 2) := by decide +kernel
theorem dX9_beside_136 : decode cX9_beside 136 = .ok (.bipush 8, 2) := by decide +kernel
theorem dX9_beside_138 : decode cX9_beside 138 = .ok (.irem, 1) := by decide +kernel
theorem dX9_beside_139 : decode cX9_beside 139 = .ok (.bipush 7, 2) := by decide +kernel
theorem dX9_beside_141 : decode cX9_beside 141 = .ok (.if_icmp .ge 18, 3) := by decide +kernel
theorem dX9_beside_144 : decode cX9_beside 144 = .ok (.iload_n 2, 1) := by decide +kernel
theorem dX9_beside_145 : decode cX9_beside 145 = .ok (.iload 5, 2) := by decide +kernel
theorem dX9_beside_147 : decode cX9_beside 147 = .ok (.iconst 1, 1) := by decide +kernel
theorem dX9_beside_148 : decode cX9_beside 148 = .ok (.iadd, 1) := by decide +kernel
theorem dX9_beside_149 : decode cX9_beside 149 = .ok (.invokestatic 182, 3) := by decide +kernel
theorem dX9_beside_152 : decode cX9_beside 152 = .ok (.ifCond .eq 7, 3) := by decide +kernel
theorem dX9_beside_155 : decode cX9_beside 155 = .ok (.iconst 1, 1) := by decide +kernel
theorem dX9_beside_156 : decode cX9_beside 156 = .ok (.goto 4, 3) := by decide +kernel
theorem dX9_beside_159 : decode cX9_beside 159 = .ok (.iconst 0, 1) := by decide +kernel
theorem dX9_beside_160 : decode cX9_beside 160 = .ok (.istore 6, 2) := by decide +kernel
theorem dX9_beside_162 : decode cX9_beside 162 = .ok (.iload 4, 2) := by decide +kernel
theorem dX9_beside_164 : decode cX9_beside 164 = .ok (.iload 6, 2) := by decide +kernel
theorem dX9_beside_166 : decode cX9_beside 166 = .ok (.ifCond .eq 28, 3) := by decide +kernel
theorem dX9_beside_169 : decode cX9_beside 169 = .ok (.iload_n 3, 1) := by decide +kernel
theorem dX9_beside_170 : decode cX9_beside 170 = .ok (.iload 5, 2) := by decide +kernel
theorem dX9_beside_172 : decode cX9_beside 172 = .ok (.invokestatic 182, 3) := by decide +kernel
theorem dX9_beside_175 : decode cX9_beside 175 = .ok (.ifCond .eq 19, 3) := by decide +kernel
theorem dX9_beside_178 : decode cX9_beside 178 = .ok (.iload_n 2, 1) := by decide +kernel
theorem dX9_beside_179 : decode cX9_beside 179 = .ok (.iload 5, 2) := by decide +kernel
theorem dX9_beside_181 : decode cX9_beside 181 = .ok (.invokestatic 182, 3) := by decide +kernel
theorem dX9_beside_184 : decode cX9_beside 184 = .ok (.ifCond .ne 10, 3) := by decide +kernel
theorem dX9_beside_187 : decode cX9_beside 187 = .ok (.iconst 1, 1) := by decide +kernel
theorem dX9_beside_188 : decode cX9_beside 188 = .ok (.iload 5, 2) := by decide +kernel
theorem dX9_beside_190 : decode cX9_beside 190 = .ok (.ishl, 1) := by decide +kernel
theorem dX9_beside_191 : decode cX9_beside 191 = .ok (.goto 4, 3) := by decide +kernel
theorem dX9_beside_194 : decode cX9_beside 194 = .ok (.iconst 0, 1) := by decide +kernel
theorem dX9_beside_195 : decode cX9_beside 195 = .ok (.ior, 1) := by decide +kernel
theorem dX9_beside_196 : decode cX9_beside 196 = .ok (.istore 4, 2) := by decide +kernel
theorem dX9_beside_198 : decode cX9_beside 198 = .ok (.iinc 5 1, 3) := by decide +kernel
theorem dX9_beside_201 : decode cX9_beside 201 = .ok (.goto (-131), 3) := by decide +kernel
theorem dX9_beside_204 : decode cX9_beside 204 = .ok (.iload 4, 2) := by decide +kernel
theorem dX9_beside_206 : decode cX9_beside 206 = .ok (.ireturn, 1) := by decide +kernel
theorem dX9_gets_0 : decode cX9_gets 0 = .ok (.iconst 0, 1) := by decide +kernel
theorem dX9_gets_1 : decode cX9_gets 1 = .ok (.istore_n 2, 1) := by decide +kernel
theorem dX9_gets_2 : decode cX9_gets 2 = .ok (.iload_n 2, 1) := by decide +kernel
theorem dX9_gets_3 : decode cX9_gets 3 = .ok (.bipush 24, 2) := by decide +kernel
theorem dX9_gets_5 : decode cX9_gets 5 = .ok (.if_icmp .ge 76, 3) := by decide +kernel
theorem dX9_gets_8 : decode cX9_gets 8 = .ok (.aload_n 0, 1) := by decide +kernel
theorem dX9_gets_9 : decode cX9_gets 9 = .ok (.getfield 41, 3) := by decide +kernel
theorem dX9_gets_12 : decode cX9_gets 12 = .ok (.iload_n 1, 1) := by decide +kernel
theorem dX9_gets_13 : decode cX9_gets 13 = .ok (.iaload, 1) := by decide +kernel
theorem dX9_gets_14 : decode cX9_gets 14 = .ok (.iload_n 2, 1) := by decide +kernel
theorem dX9_gets_15 : decode cX9_gets 15 = .ok (.invokestatic 182, 3) := by decide +kernel
theorem dX9_gets_18 : decode cX9_gets 18 = .ok (.ifCond .eq 57, 3) := by decide +kernel
theorem dX9_gets_21 : decode cX9_gets 21 = .ok (.aload_n 0, 1) := by decide +kernel
theorem dX9_gets_22 : decode cX9_gets 22 = .ok (.getfield 275, 3) := by decide +kernel
theorem dX9_gets_25 : decode cX9_gets 25 = .ok (.iload_n 2, 1) := by decide +kernel
theorem dX9_gets_26 : decode cX9_gets 26 = .ok (.invokestatic 182, 3) := by decide +kernel
theorem dX9_gets_29 : decode cX9_gets 29 = .ok (.ifCond .ne 46, 3) := by decide +kernel
theorem dX9_gets_32 : decode cX9_gets 32 = .ok (.aload_n 0, 1) := by decide +kernel
theorem dX9_gets_33 : decode cX9_gets 33 = .ok (.dup, 1) := by decide +kernel
theorem dX9_gets_34 : decode cX9_gets 34 = .ok (.getfield 275, 3) := by decide +kernel
theorem dX9_gets_37 : decode cX9_gets 37 = .ok (.iconst 1, 1) := by decide +kernel
theorem dX9_gets_38 : decode cX9_gets 38 = .ok (.iload_n 2, 1) := by decide +kernel
theorem dX9_gets_39 : decode cX9_gets 39 = .ok (.ishl, 1) := by decide +kernel
theorem dX9_gets_40 : decode cX9_gets 40 = .ok (.ior, 1) := by decide +kernel
theorem dX9_gets_41 : decode cX9_gets 41 = .ok (.putfield 275, 3) := by decide +kernel
theorem dX9_gets_44 : decode cX9_gets 44 = .ok (.aload_n 0, 1) := by decide +kernel
theorem dX9_gets_45 : decode cX9_gets 45 = .ok (.getfield 44, 3) := by decide +kernel
theorem dX9_gets_48 : decode cX9_gets 48 = .ok (.iload_n 2, 1) := by decide +kernel
theorem dX9_gets_49 : decode cX9_gets 49 = .ok (.iaload, 1) := by decide +kernel
theorem dX9_gets_50 : decode cX9_gets 50 = .ok (.ifCond .lt 16, 3) := by decide +kernel
theorem dX9_gets_53 : decode cX9_gets 53 = .ok (.aload_n 0, 1) := by decide +kernel
theorem dX9_gets_54 : decode cX9_gets 54 = .ok (.aload_n 0, 1) := by decide +kernel
theorem dX9_gets_55 : decode cX9_gets 55 = .ok (.getfield 44, 3) := by decide +kernel
theorem dX9_gets_58 : decode cX9_gets 58 = .ok (.iload_n 2, 1) := by decide +kernel
theorem dX9_gets_59 : decode cX9_gets 59 = .ok (.iaload, 1) := by decide +kernel
theorem dX9_gets_60 : decode cX9_gets 60 = .ok (.invokevirtual 278, 3) := by decide +kernel
theorem dX9_gets_63 : decode cX9_gets 63 = .ok (.ifCond .eq 12, 3) := by decide +kernel
theorem dX9_gets_66 : decode cX9_gets 66 = .ok (.aload_n 0, 1) := by decide +kernel
theorem dX9_gets_67 : decode cX9_gets 67 = .ok (.getfield 44, 3) := by decide +kernel
theorem dX9_gets_70 : decode cX9_gets 70 = .ok (.iload_n 2, 1) := by decide +kernel
theorem dX9_gets_71 : decode cX9_gets 71 = .ok (.iload_n 1, 1) := by decide +kernel
theorem dX9_gets_72 : decode cX9_gets 72 = .ok (.iastore, 1) := by decide +kernel
theorem dX9_gets_73 : decode cX9_gets 73 = .ok (.iconst 1, 1) := by decide +kernel
theorem dX9_gets_74 : decode cX9_gets 74 = .ok (.ireturn, 1) := by decide +kernel
theorem dX9_gets_75 : decode cX9_gets 75 = .ok (.iinc 2 1, 3) := by decide +kernel
theorem dX9_gets_78 : decode cX9_gets 78 = .ok (.goto (-76), 3) := by decide +kernel
theorem dX9_gets_81 : decode cX9_gets 81 = .ok (.iconst 0, 1) := by decide +kernel
theorem dX9_gets_82 : decode cX9_gets 82 = .ok (.ireturn, 1) := by decide +kernel
theorem dX9_mostRooms_0 : decode cX9_mostRooms 0 = .ok (.iconst 0, 1) := by decide +kernel
theorem dX9_mostRooms_1 : decode cX9_mostRooms 1 = .ok (.istore_n 1, 1) := by decide +kernel
theorem dX9_mostRooms_2 : decode cX9_mostRooms 2 = .ok (.iload_n 1, 1) := by decide +kernel
theorem dX9_mostRooms_3 : decode cX9_mostRooms 3 = .ok (.bipush 24, 2) := by decide +kernel
theorem dX9_mostRooms_5 : decode cX9_mostRooms 5 = .ok (.if_icmp .ge 16, 3) := by decide +kernel
theorem dX9_mostRooms_8 : decode cX9_mostRooms 8 = .ok (.aload_n 0, 1) := by decide +kernel
theorem dX9_mostRooms_9 : decode cX9_mostRooms 9 = .ok (.getfield 44, 3) := by decide +kernel
theorem dX9_mostRooms_12 : decode cX9_mostRooms 12 = .ok (.iload_n 1, 1) := by decide +kernel
theorem dX9_mostRooms_13 : decode cX9_mostRooms 13 = .ok (.iconst (-1), 1) := by decide +kernel
theorem dX9_mostRooms_14 : decode cX9_mostRooms 14 = .ok (.iastore, 1) := by decide +kernel
theorem dX9_mostRooms_15 : decode cX9_mostRooms 15 = .ok (.iinc 1 1, 3) := by decide +kernel
theorem dX9_mostRooms_18 : decode cX9_mostRooms 18 = .ok (.goto (-16), 3) := by decide +kernel
theorem dX9_mostRooms_21 : decode cX9_mostRooms 21 = .ok (.iconst 0, 1) := by decide +kernel
theorem dX9_mostRooms_22 : decode cX9_mostRooms 22 = .ok (.istore_n 1, 1) := by decide +kernel
theorem dX9_mostRooms_23 : decode cX9_mostRooms 23 = .ok (.iconst 0, 1) := by decide +kernel
theorem dX9_mostRooms_24 : decode cX9_mostRooms 24 = .ok (.istore_n 2, 1) := by decide +kernel
end
section
theorem dX9_mostRooms_25 : decode cX9_mostRooms 25 = .ok (.iload_n 2, 1) := by decide +kernel
theorem dX9_mostRooms_26 : decode cX9_mostRooms 26 = .ok (.aload_n 0, 1) := by decide +kernel
theorem dX9_mostRooms_27 : decode cX9_mostRooms 27 = .ok (.getfield 9, 3) := by decide +kernel
theorem dX9_mostRooms_30 : decode cX9_mostRooms 30 = .ok (.iconst 1, 1) := by decide +kernel
theorem dX9_mostRooms_31 : decode cX9_mostRooms 31 = .ok (.iaload, 1) := by decide +kernel
theorem dX9_mostRooms_32 : decode cX9_mostRooms 32 = .ok (.if_icmp .ge 30, 3) := by decide +kernel
theorem dX9_mostRooms_35 : decode cX9_mostRooms 35 = .ok (.aload_n 0, 1) := by decide +kernel
theorem dX9_mostRooms_36 : decode cX9_mostRooms 36 = .ok (.iconst 0, 1) := by decide +kernel
theorem dX9_mostRooms_37 : decode cX9_mostRooms 37 = .ok (.putfield 275, 3) := by decide +kernel
theorem dX9_mostRooms_40 : decode cX9_mostRooms 40 = .ok (.iload_n 1, 1) := by decide +kernel
theorem dX9_mostRooms_41 : decode cX9_mostRooms 41 = .ok (.aload_n 0, 1) := by decide +kernel
theorem dX9_mostRooms_42 : decode cX9_mostRooms 42 = .ok (.iload_n 2, 1) := by decide +kernel
theorem dX9_mostRooms_43 : decode cX9_mostRooms 43 = .ok (.invokevirtual 278, 3) := by decide +kernel
theorem dX9_mostRooms_46 : decode cX9_mostRooms 46 = .ok (.ifCond .eq 7, 3) := by decide +kernel
theorem dX9_mostRooms_49 : decode cX9_mostRooms 49 = .ok (.iconst 1, 1) := by decide +kernel
theorem dX9_mostRooms_50 : decode cX9_mostRooms 50 = .ok (.goto 4, 3) := by decide +kernel
theorem dX9_mostRooms_53 : decode cX9_mostRooms 53 = .ok (.iconst 0, 1) := by decide +kernel
theorem dX9_mostRooms_54 : decode cX9_mostRooms 54 = .ok (.iadd, 1) := by decide +kernel
theorem dX9_mostRooms_55 : decode cX9_mostRooms 55 = .ok (.istore_n 1, 1) := by decide +kernel
theorem dX9_mostRooms_56 : decode cX9_mostRooms 56 = .ok (.iinc 2 1, 3) := by decide +kernel
theorem dX9_mostRooms_59 : decode cX9_mostRooms 59 = .ok (.goto (-34), 3) := by decide +kernel
theorem dX9_mostRooms_62 : decode cX9_mostRooms 62 = .ok (.iload_n 1, 1) := by decide +kernel
theorem dX9_mostRooms_63 : decode cX9_mostRooms 63 = .ok (.ireturn, 1) := by decide +kernel
theorem dX9_settle_0 : decode cX9_settle 0 = .ok (.iconst 0, 1) := by decide +kernel
theorem dX9_settle_1 : decode cX9_settle 1 = .ok (.istore_n 2, 1) := by decide +kernel
theorem dX9_settle_2 : decode cX9_settle 2 = .ok (.iload_n 2, 1) := by decide +kernel
theorem dX9_settle_3 : decode cX9_settle 3 = .ok (.aload_n 0, 1) := by decide +kernel
theorem dX9_settle_4 : decode cX9_settle 4 = .ok (.getfield 9, 3) := by decide +kernel
theorem dX9_settle_7 : decode cX9_settle 7 = .ok (.iconst 1, 1) := by decide +kernel
theorem dX9_settle_8 : decode cX9_settle 8 = .ok (.iaload, 1) := by decide +kernel
theorem dX9_settle_9 : decode cX9_settle 9 = .ok (.if_icmp .ge 109, 3) := by decide +kernel
theorem dX9_settle_12 : decode cX9_settle 12 = .ok (.aload_n 0, 1) := by decide +kernel
theorem dX9_settle_13 : decode cX9_settle 13 = .ok (.getfield 41, 3) := by decide +kernel
theorem dX9_settle_16 : decode cX9_settle 16 = .ok (.iload_n 2, 1) := by decide +kernel
theorem dX9_settle_17 : decode cX9_settle 17 = .ok (.iaload, 1) := by decide +kernel
theorem dX9_settle_18 : decode cX9_settle 18 = .ok (.istore_n 3, 1) := by decide +kernel
theorem dX9_settle_19 : decode cX9_settle 19 = .ok (.iconst 0, 1) := by decide +kernel
theorem dX9_settle_20 : decode cX9_settle 20 = .ok (.istore 4, 2) := by decide +kernel
theorem dX9_settle_22 : decode cX9_settle 22 = .ok (.iconst 0, 1) := by decide +kernel
theorem dX9_settle_23 : decode cX9_settle 23 = .ok (.istore 5, 2) := by decide +kernel
theorem dX9_settle_25 : decode cX9_settle 25 = .ok (.iload 5, 2) := by decide +kernel
theorem dX9_settle_27 : decode cX9_settle 27 = .ok (.bipush 24, 2) := by decide +kernel
theorem dX9_settle_29 : decode cX9_settle 29 = .ok (.if_icmp .gt 83, 3) := by decide +kernel
theorem dX9_settle_32 : decode cX9_settle 32 = .ok (.iload 4, 2) := by decide +kernel
theorem dX9_settle_34 : decode cX9_settle 34 = .ok (.ifCond .ne 78, 3) := by decide +kernel
theorem dX9_settle_37 : decode cX9_settle 37 = .ok (.aload_n 0, 1) := by decide +kernel
theorem dX9_settle_38 : decode cX9_settle 38 = .ok (.getfield 41, 3) := by decide +kernel
theorem dX9_settle_41 : decode cX9_settle 41 = .ok (.iload_n 2, 1) := by decide +kernel
theorem dX9_settle_42 : decode cX9_settle 42 = .ok (.iload 5, 2) := by decide +kernel
theorem dX9_settle_44 : decode cX9_settle 44 = .ok (.bipush 24, 2) := by decide +kernel
theorem dX9_settle_46 : decode cX9_settle 46 = .ok (.if_icmp .ge 12, 3) := by decide +kernel
theorem dX9_settle_49 : decode cX9_settle 49 = .ok (.iload_n 3, 1) := by decide +kernel
theorem dX9_settle_50 : decode cX9_settle 50 = .ok (.iconst 1, 1) := by decide +kernel
theorem dX9_settle_51 : decode cX9_settle 51 = .ok (.iload 5, 2) := by decide +kernel
theorem dX9_settle_53 : decode cX9_settle 53 = .ok (.ishl, 1) := by decide +kernel
theorem dX9_settle_54 : decode cX9_settle 54 = .ok (.iand, 1) := by decide +kernel
theorem dX9_settle_55 : decode cX9_settle 55 = .ok (.goto 4, 3) := by decide +kernel
theorem dX9_settle_58 : decode cX9_settle 58 = .ok (.iconst 0, 1) := by decide +kernel
theorem dX9_settle_59 : decode cX9_settle 59 = .ok (.iastore, 1) := by decide +kernel
theorem dX9_settle_60 : decode cX9_settle 60 = .ok (.iload 5, 2) := by decide +kernel
theorem dX9_settle_62 : decode cX9_settle 62 = .ok (.bipush 24, 2) := by decide +kernel
theorem dX9_settle_64 : decode cX9_settle 64 = .ok (.if_icmp .eq 12, 3) := by decide +kernel
theorem dX9_settle_67 : decode cX9_settle 67 = .ok (.aload_n 0, 1) := by decide +kernel
theorem dX9_settle_68 : decode cX9_settle 68 = .ok (.getfield 41, 3) := by decide +kernel
theorem dX9_settle_71 : decode cX9_settle 71 = .ok (.iload_n 2, 1) := by decide +kernel
theorem dX9_settle_72 : decode cX9_settle 72 = .ok (.iaload, 1) := by decide +kernel
theorem dX9_settle_73 : decode cX9_settle 73 = .ok (.ifCond .eq 30, 3) := by decide +kernel
theorem dX9_settle_76 : decode cX9_settle 76 = .ok (.aload_n 0, 1) := by decide +kernel
theorem dX9_settle_77 : decode cX9_settle 77 = .ok (.invokevirtual 281, 3) := by decide +kernel
theorem dX9_settle_80 : decode cX9_settle 80 = .ok (.iload_n 1, 1) := by decide +kernel
theorem dX9_settle_81 : decode cX9_settle 81 = .ok (.if_icmp .ne 22, 3) := by decide +kernel
theorem dX9_settle_84 : decode cX9_settle 84 = .ok (.iload 5, 2) := by decide +kernel
theorem dX9_settle_86 : decode cX9_settle 86 = .ok (.bipush 24, 2) := by decide +kernel
theorem dX9_settle_88 : decode cX9_settle 88 = .ok (.if_icmp .eq 11, 3) := by decide +kernel
theorem dX9_settle_91 : decode cX9_settle 91 = .ok (.aload_n 0, 1) := by decide +kernel
theorem dX9_settle_92 : decode cX9_settle 92 = .ok (.iload_n 2, 1) := by decide +kernel
theorem dX9_settle_93 : decode cX9_settle 93 = .ok (.invokevirtual 284, 3) := by decide +kernel
theorem dX9_settle_96 : decode cX9_settle 96 = .ok (.ifCond .eq 7, 3) := by decide +kernel
theorem dX9_settle_99 : decode cX9_settle 99 = .ok (.iconst 1, 1) := by decide +kernel
theorem dX9_settle_100 : decode cX9_settle 100 = .ok (.goto 4, 3) := by decide +kernel
theorem dX9_settle_103 : decode cX9_settle 103 = .ok (.iconst 0, 1) := by decide +kernel
theorem dX9_settle_104 : decode cX9_settle 104 = .ok (.istore 4, 2) := by decide +kernel
theorem dX9_settle_106 : decode cX9_settle 106 = .ok (.iinc 5 1, 3) := by decide +kernel
theorem dX9_settle_109 : decode cX9_settle 109 = .ok (.goto (-84), 3) := by decide +kernel
theorem dX9_settle_112 : decode cX9_settle 112 = .ok (.iinc 2 1, 3) := by decide +kernel
theorem dX9_settle_115 : decode cX9_settle 115 = .ok (.goto (-113), 3) := by decide +kernel
theorem dX9_settle_118 : decode cX9_settle 118 = .ok (.return_, 1) := by decide +kernel
theorem dX9_isAlone_0 : decode cX9_isAlone 0 = .ok (.iconst 1, 1) := by decide +kernel
theorem dX9_isAlone_1 : decode cX9_isAlone 1 = .ok (.istore_n 2, 1) := by decide +kernel
theorem dX9_isAlone_2 : decode cX9_isAlone 2 = .ok (.iconst 0, 1) := by decide +kernel
theorem dX9_isAlone_3 : decode cX9_isAlone 3 = .ok (.istore_n 3, 1) := by decide +kernel
theorem dX9_isAlone_4 : decode cX9_isAlone 4 = .ok (.iload_n 3, 1) := by decide +kernel
theorem dX9_isAlone_5 : decode cX9_isAlone 5 = .ok (.iload_n 1, 1) := by decide +kernel
theorem dX9_isAlone_6 : decode cX9_isAlone 6 = .ok (.if_icmp .ge 34, 3) := by decide +kernel
theorem dX9_isAlone_9 : decode cX9_isAlone 9 = .ok (.iload_n 2, 1) := by decide +kernel
theorem dX9_isAlone_10 : decode cX9_isAlone 10 = .ok (.ifCond .eq 22, 3) := by decide +kernel
theorem dX9_isAlone_13 : decode cX9_isAlone 13 = .ok (.aload_n 0, 1) := by decide +kernel
theorem dX9_isAlone_14 : decode cX9_isAlone 14 = .ok (.getfield 41, 3) := by decide +kernel
theorem dX9_isAlone_17 : decode cX9_isAlone 17 = .ok (.iload_n 3, 1) := by decide +kernel
theorem dX9_isAlone_18 : decode cX9_isAlone 18 = .ok (.iaload, 1) := by decide +kernel
theorem dX9_isAlone_19 : decode cX9_isAlone 19 = .ok (.aload_n 0, 1) := by decide +kernel
theorem dX9_isAlone_20 : decode cX9_isAlone 20 = .ok (.getfield 41, 3) := by decide +kernel
theorem dX9_isAlone_23 : decode cX9_isAlone 23 = .ok (.iload_n 1, 1) := by decide +kernel
theorem dX9_isAlone_24 : decode cX9_isAlone 24 = .ok (.iaload, 1) := by decide +kernel
theorem dX9_isAlone_25 : decode cX9_isAlone 25 = .ok (.if_icmp .eq 7, 3) := by decide +kernel
theorem dX9_isAlone_28 : decode cX9_isAlone 28 = .ok (.iconst 1, 1) := by decide +kernel
theorem dX9_isAlone_29 : decode cX9_isAlone 29 = .ok (.goto 4, 3) := by decide +kernel
theorem dX9_isAlone_32 : decode cX9_isAlone 32 = .ok (.iconst 0, 1) := by decide +kernel
theorem dX9_isAlone_33 : decode cX9_isAlone 33 = .ok (.istore_n 2, 1) := by decide +kernel
theorem dX9_isAlone_34 : decode cX9_isAlone 34 = .ok (.iinc 3 1, 3) := by decide +kernel
theorem dX9_isAlone_37 : decode cX9_isAlone 37 = .ok (.goto (-33), 3) := by decide +kernel
theorem dX9_isAlone_40 : decode cX9_isAlone 40 = .ok (.iload_n 2, 1) := by decide +kernel
theorem dX9_isAlone_41 : decode cX9_isAlone 41 = .ok (.ireturn, 1) := by decide +kernel
theorem dX9_tellsWishes_0 : decode cX9_tellsWishes 0 = .ok (.aload_n 0, 1) := by decide +kernel
theorem dX9_tellsWishes_1 : decode cX9_tellsWishes 1 = .ok (.getfield 50, 3) := by decide +kernel
theorem dX9_tellsWishes_4 : decode cX9_tellsWishes 4 = .ok (.iload_n 1, 1) := by decide +kernel
theorem dX9_tellsWishes_5 : decode cX9_tellsWishes 5 = .ok (.iaload, 1) := by decide +kernel
theorem dX9_tellsWishes_6 : decode cX9_tellsWishes 6 = .ok (.ifCond .le 22, 3) := by decide +kernel
theorem dX9_tellsWishes_9 : decode cX9_tellsWishes 9 = .ok (.aload_n 0, 1) := by decide +kernel
theorem dX9_tellsWishes_10 : decode cX9_tellsWishes 10 = .ok (.getfield 53, 3) := by decide +kernel
theorem dX9_tellsWishes_13 : decode cX9_tellsWishes 13 = .ok (.iload_n 1, 1) := by decide +kernel
theorem dX9_tellsWishes_14 : decode cX9_tellsWishes 14 = .ok (.iaload, 1) := by decide +kernel
theorem dX9_tellsWishes_15 : decode cX9_tellsWishes 15 = .ok (.aload_n 0, 1) := by decide +kernel
theorem dX9_tellsWishes_16 : decode cX9_tellsWishes 16 = .ok (.getfield 9, 3) := by decide +kernel
theorem dX9_tellsWishes_19 : decode cX9_tellsWishes 19 = .ok (.iconst 1, 1) := by decide +kernel
theorem dX9_tellsWishes_20 : decode cX9_tellsWishes 20 = .ok (.iaload, 1) := by decide +kernel
theorem dX9_tellsWishes_21 : decode cX9_tellsWishes 21 = .ok (.if_icmp .ne 7, 3) := by decide +kernel
theorem dX9_tellsWishes_24 : decode cX9_tellsWishes 24 = .ok (.iconst 1, 1) := by decide +kernel
theorem dX9_tellsWishes_25 : decode cX9_tellsWishes 25 = .ok (.goto 4, 3) := by decide +kernel
theorem dX9_tellsWishes_28 : decode cX9_tellsWishes 28 = .ok (.iconst 0, 1) := by decide +kernel
theorem dX9_tellsWishes_29 : decode cX9_tellsWishes 29 = .ok (.istore_n 2, 1) := by decide +kernel
theorem dX9_tellsWishes_30 : decode cX9_tellsWishes 30 = .ok (.iconst 0, 1) := by decide +kernel
theorem dX9_tellsWishes_31 : decode cX9_tellsWishes 31 = .ok (.istore_n 3, 1) := by decide +kernel
theorem dX9_tellsWishes_32 : decode cX9_tellsWishes 32 = .ok (.iload_n 3, 1) := by decide +kernel
theorem dX9_tellsWishes_33 : decode cX9_tellsWishes 33 = .ok (.aload_n 0, 1) := by decide +kernel
theorem dX9_tellsWishes_34 : decode cX9_tellsWishes 34 = .ok (.getfield 9, 3) := by decide +kernel
theorem dX9_tellsWishes_37 : decode cX9_tellsWishes 37 = .ok (.iconst 1, 1) := by decide +kernel
theorem dX9_tellsWishes_38 : decode cX9_tellsWishes 38 = .ok (.iaload, 1) := by decide +kernel
theorem dX9_tellsWishes_39 : decode cX9_tellsWishes 39 = .ok (.if_icmp .ge 40, 3) := by decide +kernel
theorem dX9_tellsWishes_42 : decode cX9_tellsWishes 42 = .ok (.iload_n 2, 1) := by decide +kernel
theorem dX9_tellsWishes_43 : decode cX9_tellsWishes 43 = .ok (.ifCond .eq 36, 3) := by decide +kernel
theorem dX9_tellsWishes_46 : decode cX9_tellsWishes 46 = .ok (.aload_n 0, 1) := by decide +kernel
theorem dX9_tellsWishes_47 : decode cX9_tellsWishes 47 = .ok (.getfield 41, 3) := by decide +kernel
theorem dX9_tellsWishes_50 : decode cX9_tellsWishes 50 = .ok (.iload_n 3, 1) := by decide +kernel
theorem dX9_tellsWishes_51 : decode cX9_tellsWishes 51 = .ok (.aload_n 0, 1) := by decide +kernel
theorem dX9_tellsWishes_52 : decode cX9_tellsWishes 52 = .ok (.getfield 56, 3) := by decide +kernel
theorem dX9_tellsWishes_55 : decode cX9_tellsWishes 55 = .ok (.bipush 40, 2) := by decide +kernel
theorem dX9_tellsWishes_57 : decode cX9_tellsWishes 57 = .ok (.iload_n 1, 1) := by decide +kernel
theorem dX9_tellsWishes_58 : decode cX9_tellsWishes 58 = .ok (.imul, 1) := by decide +kernel
theorem dX9_tellsWishes_59 : decode cX9_tellsWishes 59 = .ok (.iload_n 3, 1) := by decide +kernel
theorem dX9_tellsWishes_60 : decode cX9_tellsWishes 60 = .ok (.iadd, 1) := by decide +kernel
theorem dX9_tellsWishes_61 : decode cX9_tellsWishes 61 = .ok (.iaload, 1) := by decide +kernel
theorem dX9_tellsWishes_62 : decode cX9_tellsWishes 62 = .ok (.iastore, 1) := by decide +kernel
theorem dX9_tellsWishes_63 : decode cX9_tellsWishes 63 = .ok (.aload_n 0, 1) := by decide +kernel
theorem dX9_tellsWishes_64 : decode cX9_tellsWishes 64 = .ok (.getfield 41, 3) := by decide +kernel
theorem dX9_tellsWishes_67 : decode cX9_tellsWishes 67 = .ok (.iload_n 3, 1) := by decide +kernel
theorem dX9_tellsWishes_68 : decode cX9_tellsWishes 68 = .ok (.iaload, 1) := by decide +kernel
theorem dX9_tellsWishes_69 : decode cX9_tellsWishes 69 = .ok (.invokestatic 236, 3) := by decide +kernel
theorem dX9_tellsWishes_72 : decode cX9_tellsWishes 72 = .ok (.istore_n 2, 1) := by decide +kernel
theorem dX9_tellsWishes_73 : decode cX9_tellsWishes 73 = .ok (.iinc 3 1, 3) := by decide +kernel
theorem dX9_tellsWishes_76 : decode cX9_tellsWishes 76 = .ok (.goto (-44), 3) := by decide +kernel
theorem dX9_tellsWishes_79 : decode cX9_tellsWishes 79 = .ok (.iload_n 2, 1) := by decide +kernel
theorem dX9_tellsWishes_80 : decode cX9_tellsWishes 80 = .ok (.ireturn, 1) := by decide +kernel
theorem dX9_rooms_0 : decode cX9_rooms 0 = .ok (.iload_n 1, 1) := by decide +kernel
theorem dX9_rooms_1 : decode cX9_rooms 1 = .ok (.invokestatic 287, 3) := by decide +kernel
theorem dX9_rooms_4 : decode cX9_rooms 4 = .ok (.ifCond .eq 19, 3) := by decide +kernel
theorem dX9_rooms_7 : decode cX9_rooms 7 = .ok (.iload_n 2, 1) := by decide +kernel
theorem dX9_rooms_8 : decode cX9_rooms 8 = .ok (.iconst (-1), 1) := by decide +kernel
theorem dX9_rooms_9 : decode cX9_rooms 9 = .ok (.aload_n 0, 1) := by decide +kernel
theorem dX9_rooms_10 : decode cX9_rooms 10 = .ok (.getfield 9, 3) := by decide +kernel
theorem dX9_rooms_13 : decode cX9_rooms 13 = .ok (.iconst 1, 1) := by decide +kernel
theorem dX9_rooms_14 : decode cX9_rooms 14 = .ok (.iaload, 1) := by decide +kernel
theorem dX9_rooms_15 : decode cX9_rooms 15 = .ok (.iconst 1, 1) := by decide +kernel
theorem dX9_rooms_16 : decode cX9_rooms 16 = .ok (.isub, 1) := by decide +kernel
theorem dX9_rooms_17 : decode cX9_rooms 17 = .ok (.invokestatic 76, 3) := by decide +kernel
theorem dX9_rooms_20 : decode cX9_rooms 20 = .ok (.ifCond .ne 10, 3) := by decide +kernel
theorem dX9_rooms_23 : decode cX9_rooms 23 = .ok (.aload_n 0, 1) := by decide +kernel
theorem dX9_rooms_24 : decode cX9_rooms 24 = .ok (.ldc 80, 2) := by decide +kernel
theorem dX9_rooms_26 : decode cX9_rooms 26 = .ok (.invokevirtual 81, 3) := by decide +kernel
theorem dX9_rooms_29 : decode cX9_rooms 29 = .ok (.ireturn, 1) := by decide +kernel
theorem dX9_rooms_30 : decode cX9_rooms 30 = .ok (.aload_n 0, 1) := by decide +kernel
theorem dX9_rooms_31 : decode cX9_rooms 31 = .ok (.iload_n 1, 1) := by decide +kernel
theorem dX9_rooms_32 : decode cX9_rooms 32 = .ok (.invokevirtual 290, 3) := by decide +kernel
theorem dX9_rooms_35 : decode cX9_rooms 35 = .ok (.ifCond .ne 11, 3) := by decide +kernel
theorem dX9_rooms_38 : decode cX9_rooms 38 = .ok (.aload_n 0, 1) := by decide +kernel
theorem dX9_rooms_39 : decode cX9_rooms 39 = .ok (.ldc_w 268, 3) := by decide +kernel
theorem dX9_rooms_42 : decode cX9_rooms 42 = .ok (.invokevirtual 81, 3) := by decide +kernel
theorem dX9_rooms_45 : decode cX9_rooms 45 = .ok (.ireturn, 1) := by decide +kernel
theorem dX9_rooms_46 : decode cX9_rooms 46 = .ok (.aload_n 0, 1) := by decide +kernel
theorem dX9_rooms_47 : decode cX9_rooms 47 = .ok (.invokevirtual 281, 3) := by decide +kernel
theorem dX9_rooms_50 : decode cX9_rooms 50 = .ok (.istore_n 3, 1) := by decide +kernel
theorem dX9_rooms_51 : decode cX9_rooms 51 = .ok (.iload_n 2, 1) := by decide +kernel
theorem dX9_rooms_52 : decode cX9_rooms 52 = .ok (.ifCond .ge 5, 3) := by decide +kernel
theorem dX9_rooms_55 : decode cX9_rooms 55 = .ok (.iload_n 3, 1) := by decide +kernel
theorem dX9_rooms_56 : decode cX9_rooms 56 = .ok (.ireturn, 1) := by decide +kernel
theorem dX9_rooms_57 : decode cX9_rooms 57 = .ok (.aload_n 0, 1) := by decide +kernel
theorem dX9_rooms_58 : decode cX9_rooms 58 = .ok (.iload_n 3, 1) := by decide +kernel
theorem dX9_rooms_59 : decode cX9_rooms 59 = .ok (.invokevirtual 293, 3) := by decide +kernel
theorem dX9_rooms_62 : decode cX9_rooms 62 = .ok (.iconst (-1), 1) := by decide +kernel
theorem dX9_rooms_63 : decode cX9_rooms 63 = .ok (.istore 4, 2) := by decide +kernel
theorem dX9_rooms_65 : decode cX9_rooms 65 = .ok (.iconst 0, 1) := by decide +kernel
theorem dX9_rooms_66 : decode cX9_rooms 66 = .ok (.istore 5, 2) := by decide +kernel
theorem dX9_rooms_68 : decode cX9_rooms 68 = .ok (.iload 5, 2) := by decide +kernel
theorem dX9_rooms_70 : decode cX9_rooms 70 = .ok (.bipush 24, 2) := by decide +kernel
theorem dX9_rooms_72 : decode cX9_rooms 72 = .ok (.if_icmp .ge 31, 3) := by decide +kernel
theorem dX9_rooms_75 : decode cX9_rooms 75 = .ok (.aload_n 0, 1) := by decide +kernel
theorem dX9_rooms_76 : decode cX9_rooms 76 = .ok (.getfield 41, 3) := by decide +kernel
theorem dX9_rooms_79 : decode cX9_rooms 79 = .ok (.iload_n 2, 1) := by decide +kernel
theorem dX9_rooms_80 : decode cX9_rooms 80 = .ok (.iaload, 1) := by decide +kernel
theorem dX9_rooms_81 : decode cX9_rooms 81 = .ok (.iconst 1, 1) := by decide +kernel
theorem dX9_rooms_82 : decode cX9_rooms 82 = .ok (.iload 5, 2) := by decide +kernel
theorem dX9_rooms_84 : decode cX9_rooms 84 = .ok (.ishl, 1) := by decide +kernel
theorem dX9_rooms_85 : decode cX9_rooms 85 = .ok (.if_icmp .ne 8, 3) := by decide +kernel
theorem dX9_rooms_88 : decode cX9_rooms 88 = .ok (.iload 5, 2) := by decide +kernel
theorem dX9_rooms_90 : decode cX9_rooms 90 = .ok (.goto 5, 3) := by decide +kernel
theorem dX9_rooms_93 : decode cX9_rooms 93 = .ok (.iload 4, 2) := by decide +kernel
theorem dX9_rooms_95 : decode cX9_rooms 95 = .ok (.istore 4, 2) := by decide +kernel
theorem dX9_rooms_97 : decode cX9_rooms 97 = .ok (.iinc 5 1, 3) := by decide +kernel
theorem dX9_rooms_100 : decode cX9_rooms 100 = .ok (.goto (-32), 3) := by decide +kernel
theorem dX9_rooms_103 : decode cX9_rooms 103 = .ok (.iload 4, 2) := by decide +kernel
theorem dX9_rooms_105 : decode cX9_rooms 105 = .ok (.ireturn, 1) := by decide +kernel
theorem dX9_falls_0 : decode cX9_falls 0 = .ok (.iload_n 1, 1) := by decide +kernel
theorem dX9_falls_1 : decode cX9_falls 1 = .ok (.iconst 0, 1) := by decide +kernel
theorem dX9_falls_2 : decode cX9_falls 2 = .ok (.bipush 15, 2) := by decide +kernel
theorem dX9_falls_4 : decode cX9_falls 4 = .ok (.invokestatic 76, 3) := by decide +kernel
theorem dX9_falls_7 : decode cX9_falls 7 = .ok (.ifCond .eq 13, 3) := by decide +kernel
theorem dX9_falls_10 : decode cX9_falls 10 = .ok (.iload_n 2, 1) := by decide +kernel
theorem dX9_falls_11 : decode cX9_falls 11 = .ok (.iconst 0, 1) := by decide +kernel
theorem dX9_falls_12 : decode cX9_falls 12 = .ok (.bipush 6, 2) := by decide +kernel
theorem dX9_falls_14 : decode cX9_falls 14 = .ok (.invokestatic 76, 3) := by decide +kernel
theorem dX9_falls_17 : decode cX9_falls 17 = .ok (.ifCond .ne 10, 3) := by decide +kernel
theorem dX9_falls_20 : decode cX9_falls 20 = .ok (.aload_n 0, 1) := by decide +kernel
theorem dX9_falls_21 : decode cX9_falls 21 = .ok (.ldc 80, 2) := by decide +kernel
theorem dX9_falls_23 : decode cX9_falls 23 = .ok (.invokevirtual 81, 3) := by decide +kernel
theorem dX9_falls_26 : decode cX9_falls 26 = .ok (.ireturn, 1) := by decide +kernel
theorem dX9_falls_27 : decode cX9_falls 27 = .ok (.iconst 0, 1) := by decide +kernel
theorem dX9_falls_28 : decode cX9_falls 28 = .ok (.istore_n 3, 1) := by decide +kernel
theorem dX9_falls_29 : decode cX9_falls 29 = .ok (.aload_n 0, 1) := by decide +kernel
theorem dX9_falls_30 : decode cX9_falls 30 = .ok (.getfield 9, 3) := by decide +kernel
theorem dX9_falls_33 : decode cX9_falls 33 = .ok (.iconst 0, 1) := by decide +kernel
theorem dX9_falls_34 : decode cX9_falls 34 = .ok (.iaload, 1) := by decide +kernel
theorem dX9_falls_35 : decode cX9_falls 35 = .ok (.iload_n 3, 1) := by decide +kernel
theorem dX9_falls_36 : decode cX9_falls 36 = .ok (.iadd, 1) := by decide +kernel
theorem dX9_falls_37 : decode cX9_falls 37 = .ok (.bipush 16, 2) := by decide +kernel
theorem dX9_falls_39 : decode cX9_falls 39 = .ok (.irem, 1) := by decide +kernel
theorem dX9_falls_40 : decode cX9_falls 40 = .ok (.iload_n 1, 1) := by decide +kernel
theorem dX9_falls_41 : decode cX9_falls 41 = .ok (.if_icmp .ne 18, 3) := by decide +kernel
theorem dX9_falls_44 : decode cX9_falls 44 = .ok (.aload_n 0, 1) := by decide +kernel
theorem dX9_falls_45 : decode cX9_falls 45 = .ok (.getfield 9, 3) := by decide +kernel
theorem dX9_falls_48 : decode cX9_falls 48 = .ok (.iconst 0, 1) := by decide +kernel
theorem dX9_falls_49 : decode cX9_falls 49 = .ok (.iaload, 1) := by decide +kernel
theorem dX9_falls_50 : decode cX9_falls 50 = .ok (.iload_n 3, 1) := by decide +kernel
theorem dX9_falls_51 : decode cX9_falls 51 = .ok (.iadd, 1) := by decide +kernel
theorem dX9_falls_52 : decode cX9_falls 52 = .ok (.bipush 7, 2) := by decide +kernel
theorem dX9_falls_54 : decode cX9_falls 54 = .ok (.irem, 1) := by decide +kernel
theorem dX9_falls_55 : decode cX9_falls 55 = .ok (.iload_n 2, 1) := by decide +kernel
theorem dX9_falls_56 : decode cX9_falls 56 = .ok (.if_icmp .eq 9, 3) := by decide +kernel
theorem dX9_falls_59 : decode cX9_falls 59 = .ok (.iinc 3 1, 3) := by decide +kernel
theorem dX9_falls_62 : decode cX9_falls 62 = .ok (.goto (-33), 3) := by decide +kernel
theorem dX9_falls_65 : decode cX9_falls 65 = .ok (.iload_n 3, 1) := by decide +kernel
theorem dX9_falls_66 : decode cX9_falls 66 = .ok (.ireturn, 1) := by decide +kernel
theorem dX9_was_0 : decode cX9_was 0 = .ok (.iload_n 1, 1) := by decide +kernel
theorem dX9_was_1 : decode cX9_was 1 = .ok (.invokestatic 287, 3) := by decide +kernel
theorem dX9_was_4 : decode cX9_was 4 = .ok (.ifCond .ne 10, 3) := by decide +kernel
theorem dX9_was_7 : decode cX9_was 7 = .ok (.aload_n 0, 1) := by decide +kernel
theorem dX9_was_8 : decode cX9_was 8 = .ok (.ldc 80, 2) := by decide +kernel
theorem dX9_was_10 : decode cX9_was 10 = .ok (.invokevirtual 81, 3) := by decide +kernel
theorem dX9_was_13 : decode cX9_was 13 = .ok (.ireturn, 1) := by decide +kernel
theorem dX9_was_14 : decode cX9_was 14 = .ok (.aload_n 0, 1) := by decide +kernel
theorem dX9_was_15 : decode cX9_was 15 = .ok (.getfield 50, 3) := by decide +kernel
theorem dX9_was_18 : decode cX9_was 18 = .ok (.iload_n 1, 1) := by decide +kernel
theorem dX9_was_19 : decode cX9_was 19 = .ok (.iaload, 1) := by decide +kernel
theorem dX9_was_20 : decode cX9_was 20 = .ok (.ifCond .le 7, 3) := by decide +kernel
theorem dX9_was_23 : decode cX9_was 23 = .ok (.iconst 1, 1) := by decide +kernel
theorem dX9_was_24 : decode cX9_was 24 = .ok (.goto 4, 3) := by decide +kernel
theorem dX9_was_27 : decode cX9_was 27 = .ok (.iconst 0, 1) := by decide +kernel
theorem dX9_was_28 : decode cX9_was 28 = .ok (.istore_n 2, 1) := by decide +kernel
theorem dX9_was_29 : decode cX9_was 29 = .ok (.iconst 0, 1) := by decide +kernel
theorem dX9_was_30 : decode cX9_was 30 = .ok (.istore_n 3, 1) := by decide +kernel
theorem dX9_was_31 : decode cX9_was 31 = .ok (.iload_n 3, 1) := by decide +kernel
theorem dX9_was_32 : decode cX9_was 32 = .ok (.aload_n 0, 1) := by decide +kernel
theorem dX9_was_33 : decode cX9_was 33 = .ok (.getfield 53, 3) := by decide +kernel
theorem dX9_was_36 : decode cX9_was 36 = .ok (.iload_n 1, 1) := by decide +kernel
theorem dX9_was_37 : decode cX9_was 37 = .ok (.iaload, 1) := by decide +kernel
theorem dX9_was_38 : decode cX9_was 38 = .ok (.if_icmp .ge 38, 3) := by decide +kernel
theorem dX9_was_41 : decode cX9_was 41 = .ok (.iload_n 2, 1) := by decide +kernel
theorem dX9_was_42 : decode cX9_was 42 = .ok (.ifCond .eq 26, 3) := by decide +kernel
theorem dX9_was_45 : decode cX9_was 45 = .ok (.aload_n 0, 1) := by decide +kernel
theorem dX9_was_46 : decode cX9_was 46 = .ok (.getfield 56, 3) := by decide +kernel
theorem dX9_was_49 : decode cX9_was 49 = .ok (.bipush 40, 2) := by decide +kernel
theorem dX9_was_51 : decode cX9_was 51 = .ok (.iload_n 1, 1) := by decide +kernel
theorem dX9_was_52 : decode cX9_was 52 = .ok (.imul, 1) := by decide +kernel
theorem dX9_was_53 : decode cX9_was 53 = .ok (.iload_n 3, 1) := by decide +kernel
theorem dX9_was_54 : decode cX9_was 54 = .ok (.iadd, 1) := by decide +kernel
theorem dX9_was_55 : decode cX9_was 55 = .ok (.iaload, 1) := by decide +kernel
theorem dX9_was_56 : decode cX9_was 56 = .ok (.iconst 0, 1) := by decide +kernel
theorem dX9_was_57 : decode cX9_was 57 = .ok (.iconst 1, 1) := by decide +kernel
theorem dX9_was_58 : decode cX9_was 58 = .ok (.invokestatic 76, 3) := by decide +kernel
theorem dX9_was_61 : decode cX9_was 61 = .ok (.ifCond .eq 7, 3) := by decide +kernel
theorem dX9_was_64 : decode cX9_was 64 = .ok (.iconst 1, 1) := by decide +kernel
theorem dX9_was_65 : decode cX9_was 65 = .ok (.goto 4, 3) := by decide +kernel
theorem dX9_was_68 : decode cX9_was 68 = .ok (.iconst 0, 1) := by decide +kernel
theorem dX9_was_69 : decode cX9_was 69 = .ok (.istore_n 2, 1) := by decide +kernel
theorem dX9_was_70 : decode cX9_was 70 = .ok (.iinc 3 1, 3) := by decide +kernel
theorem dX9_was_73 : decode cX9_was 73 = .ok (.goto (-42), 3) := by decide +kernel
theorem dX9_was_76 : decode cX9_was 76 = .ok (.iload_n 2, 1) := by decide +kernel
theorem dX9_was_77 : decode cX9_was 77 = .ok (.ifCond .ne 11, 3) := by decide +kernel
theorem dX9_was_80 : decode cX9_was 80 = .ok (.aload_n 0, 1) := by decide +kernel
theorem dX9_was_81 : decode cX9_was 81 = .ok (.ldc_w 268, 3) := by decide +kernel
theorem dX9_was_84 : decode cX9_was 84 = .ok (.invokevirtual 81, 3) := by decide +kernel
theorem dX9_was_87 : decode cX9_was 87 = .ok (.ireturn, 1) := by decide +kernel
theorem dX9_was_88 : decode cX9_was 88 = .ok (.aload_n 0, 1) := by decide +kernel
theorem dX9_was_89 : decode cX9_was 89 = .ok (.getfield 9, 3) := by decide +kernel
theorem dX9_was_92 : decode cX9_was 92 = .ok (.iconst 0, 1) := by decide +kernel
theorem dX9_was_93 : decode cX9_was 93 = .ok (.iaload, 1) := by decide +kernel
theorem dX9_was_94 : decode cX9_was 94 = .ok (.istore_n 3, 1) := by decide +kernel
theorem dX9_was_95 : decode cX9_was 95 = .ok (.ldc 235, 2) := by decide +kernel
theorem dX9_was_97 : decode cX9_was 97 = .ok (.istore 4, 2) := by decide +kernel
theorem dX9_was_99 : decode cX9_was 99 = .ok (.iconst 0, 1) := by decide +kernel
theorem dX9_was_100 : decode cX9_was 100 = .ok (.istore 5, 2) := by decide +kernel
theorem dX9_was_102 : decode cX9_was 102 = .ok (.iload 5, 2) := by decide +kernel
theorem dX9_was_104 : decode cX9_was 104 = .ok (.aload_n 0, 1) := by decide +kernel
theorem dX9_was_105 : decode cX9_was 105 = .ok (.getfield 53, 3) := by decide +kernel
theorem dX9_was_108 : decode cX9_was 108 = .ok (.iload_n 1, 1) := by decide +kernel
theorem dX9_was_109 : decode cX9_was 109 = .ok (.iaload, 1) := by decide +kernel
theorem dX9_was_110 : decode cX9_was 110 = .ok (.if_icmp .ge 53, 3) := by decide +kernel
theorem dX9_was_113 : decode cX9_was 113 = .ok (.iload 4, 2) := by decide +kernel
theorem dX9_was_115 : decode cX9_was 115 = .ok (.aload_n 0, 1) := by decide +kernel
theorem dX9_was_116 : decode cX9_was 116 = .ok (.getfield 56, 3) := by decide +kernel
theorem dX9_was_119 : decode cX9_was 119 = .ok (.bipush 40, 2) := by decide +kernel
theorem dX9_was_121 : decode cX9_was 121 = .ok (.iload_n 1, 1) := by decide +kernel
theorem dX9_was_122 : decode cX9_was 122 = .ok (.imul, 1) := by decide +kernel
theorem dX9_was_123 : decode cX9_was 123 = .ok (.iload 5, 2) := by decide +kernel
theorem dX9_was_125 : decode cX9_was 125 = .ok (.iadd, 1) := by decide +kernel
theorem dX9_was_126 : decode cX9_was 126 = .ok (.iaload, 1) := by decide +kernel
theorem dX9_was_127 : decode cX9_was 127 = .ok (.iconst 1, 1) := by decide +kernel
theorem dX9_was_128 : decode cX9_was 128 = .ok (.if_icmp .ne 10, 3) := by decide +kernel
theorem dX9_was_131 : decode cX9_was 131 = .ok (.aload_n 0, 1) := by decide +kernel
theorem dX9_was_132 : decode cX9_was 132 = .ok (.invokevirtual 195, 3) := by decide +kernel
theorem dX9_was_135 : decode cX9_was 135 = .ok (.goto 9, 3) := by decide +kernel
theorem dX9_was_138 : decode cX9_was 138 = .ok (.aload_n 0, 1) := by decide +kernel
theorem dX9_was_139 : decode cX9_was 139 = .ok (.invokevirtual 195, 3) := by decide +kernel
theorem dX9_was_142 : decode cX9_was 142 = .ok (.iconst (-1), 1) := by decide +kernel
theorem dX9_was_143 : decode cX9_was 143 = .ok (.ixor, 1) := by decide +kernel
theorem dX9_was_144 : decode cX9_was 144 = .ok (.iand, 1) := by decide +kernel
theorem dX9_was_145 : decode cX9_was 145 = .ok (.istore 4, 2) := by decide +kernel
theorem dX9_was_147 : decode cX9_was 147 = .ok (.aload_n 0, 1) := by decide +kernel
theorem dX9_was_148 : decode cX9_was 148 = .ok (.getfield 9, 3) := by decide +kernel
theorem dX9_was_151 : decode cX9_was 151 = .ok (.iconst 0, 1) := by decide +kernel
theorem dX9_was_152 : decode cX9_was 152 = .ok (.dup2, 1) := by decide +kernel
theorem dX9_was_153 : decode cX9_was 153 = .ok (.iaload, 1) := by decide +kernel
theorem dX9_was_154 : decode cX9_was 154 = .ok (.iconst 1, 1) := by decide +kernel
theorem dX9_was_155 : decode cX9_was 155 = .ok (.iadd, 1) := by decide +kernel
theorem dX9_was_156 : decode cX9_was 156 = .ok (.iastore, 1) := by decide +kernel
theorem dX9_was_157 : decode cX9_was 157 = .ok (.iinc 5 1, 3) := by decide +kernel
theorem dX9_was_160 : decode cX9_was 160 = .ok (.goto (-58), 3) := by decide +kernel
theorem dX9_was_163 : decode cX9_was 163 = .ok (.aload_n 0, 1) := by decide +kernel
theorem dX9_was_164 : decode cX9_was 164 = .ok (.getfield 9, 3) := by decide +kernel
theorem dX9_was_167 : decode cX9_was 167 = .ok (.iconst 0, 1) := by decide +kernel
theorem dX9_was_168 : decode cX9_was 168 = .ok (.iload_n 3, 1) := by decide +kernel
theorem dX9_was_169 : decode cX9_was 169 = .ok (.iastore, 1) := by decide +kernel
theorem dX9_was_170 : decode cX9_was 170 = .ok (.iload 4, 2) := by decide +kernel
theorem dX9_was_172 : decode cX9_was 172 = .ok (.ireturn, 1) := by decide +kernel
theorem dX9_dear_0 : decode cX9_dear 0 = .ok (.iload_n 1, 1) := by decide +kernel
theorem dX9_dear_1 : decode cX9_dear 1 = .ok (.iconst 0, 1) := by decide +kernel
theorem dX9_dear_2 : decode cX9_dear 2 = .ok (.bipush 99, 2) := by decide +kernel
theorem dX9_dear_4 : decode cX9_dear 4 = .ok (.invokestatic 76, 3) := by decide +kernel
theorem dX9_dear_7 : decode cX9_dear 7 = .ok (.ifCond .ne 10, 3) := by decide +kernel
theorem dX9_dear_10 : decode cX9_dear 10 = .ok (.aload_n 0, 1) := by decide +kernel
theorem dX9_dear_11 : decode cX9_dear 11 = .ok (.ldc 80, 2) := by decide +kernel
theorem dX9_dear_13 : decode cX9_dear 13 = .ok (.invokevirtual 81, 3) := by decide +kernel
theorem dX9_dear_16 : decode cX9_dear 16 = .ok (.ireturn, 1) := by decide +kernel
theorem dX9_dear_17 : decode cX9_dear 17 = .ok (.iconst (-1), 1) := by decide +kernel
theorem dX9_dear_18 : decode cX9_dear 18 = .ok (.istore_n 2, 1) := by decide +kernel
theorem dX9_dear_19 : decode cX9_dear 19 = .ok (.iconst (-1), 1) := by decide +kernel
theorem dX9_dear_20 : decode cX9_dear 20 = .ok (.istore_n 3, 1) := by decide +kernel
theorem dX9_dear_21 : decode cX9_dear 21 = .ok (.iconst 0, 1) := by decide +kernel
theorem dX9_dear_22 : decode cX9_dear 22 = .ok (.istore 4, 2) := by decide +kernel
theorem dX9_dear_24 : decode cX9_dear 24 = .ok (.iload 4, 2) := by decide +kernel
theorem dX9_dear_26 : decode cX9_dear 26 = .ok (.bipush 24, 2) := by decide +kernel
theorem dX9_dear_28 : decode cX9_dear 28 = .ok (.if_icmp .ge 48, 3) := by decide +kernel
theorem dX9_dear_31 : decode cX9_dear 31 = .ok (.aload_n 0, 1) := by decide +kernel
theorem dX9_dear_32 : decode cX9_dear 32 = .ok (.iload 4, 2) := by decide +kernel
theorem dX9_dear_34 : decode cX9_dear 34 = .ok (.invokevirtual 186, 3) := by decide +kernel
theorem dX9_dear_37 : decode cX9_dear 37 = .ok (.ifCond .ne 12, 3) := by decide +kernel
theorem dX9_dear_40 : decode cX9_dear 40 = .ok (.aload_n 0, 1) := by decide +kernel
theorem dX9_dear_41 : decode cX9_dear 41 = .ok (.iload 4, 2) := by decide +kernel
theorem dX9_dear_43 : decode cX9_dear 43 = .ok (.invokevirtual 198, 3) := by decide +kernel
theorem dX9_dear_46 : decode cX9_dear 46 = .ok (.goto 4, 3) := by decide +kernel
theorem dX9_dear_49 : decode cX9_dear 49 = .ok (.iconst (-1), 1) := by decide +kernel
theorem dX9_dear_50 : decode cX9_dear 50 = .ok (.istore 5, 2) := by decide +kernel
theorem dX9_dear_52 : decode cX9_dear 52 = .ok (.iload 5, 2) := by decide +kernel
theorem dX9_dear_54 : decode cX9_dear 54 = .ok (.iload_n 3, 1) := by decide +kernel
theorem dX9_dear_55 : decode cX9_dear 55 = .ok (.if_icmp .le 15, 3) := by decide +kernel
theorem dX9_dear_58 : decode cX9_dear 58 = .ok (.iload 5, 2) := by decide +kernel
theorem dX9_dear_60 : decode cX9_dear 60 = .ok (.iload_n 1, 1) := by decide +kernel
theorem dX9_dear_61 : decode cX9_dear 61 = .ok (.if_icmp .gt 9, 3) := by decide +kernel
theorem dX9_dear_64 : decode cX9_dear 64 = .ok (.iload 4, 2) := by decide +kernel
theorem dX9_dear_66 : decode cX9_dear 66 = .ok (.istore_n 2, 1) := by decide +kernel
theorem dX9_dear_67 : decode cX9_dear 67 = .ok (.iload 5, 2) := by decide +kernel
theorem dX9_dear_69 : decode cX9_dear 69 = .ok (.istore_n 3, 1) := by decide +kernel
theorem dX9_dear_70 : decode cX9_dear 70 = .ok (.iinc 4 1, 3) := by decide +kernel
theorem dX9_dear_73 : decode cX9_dear 73 = .ok (.goto (-49), 3) := by decide +kernel
theorem dX9_dear_76 : decode cX9_dear 76 = .ok (.iload_n 2, 1) := by decide +kernel
theorem dX9_dear_77 : decode cX9_dear 77 = .ok (.ifCond .ge 13, 3) := by decide +kernel
theorem dX9_dear_80 : decode cX9_dear 80 = .ok (.aload_n 0, 1) := by decide +kernel
theorem dX9_dear_81 : decode cX9_dear 81 = .ok (.ldc_w 268, 3) := by decide +kernel
theorem dX9_dear_84 : decode cX9_dear 84 = .ok (.invokevirtual 81, 3) := by decide +kernel
theorem dX9_dear_87 : decode cX9_dear 87 = .ok (.goto 4, 3) := by decide +kernel
theorem dX9_dear_90 : decode cX9_dear 90 = .ok (.iload_n 2, 1) := by decide +kernel
theorem dX9_dear_91 : decode cX9_dear 91 = .ok (.ireturn, 1) := by decide +kernel
theorem dX9_seed_0 : decode cX9_seed 0 = .ok (.aload_n 0, 1) := by decide +kernel
theorem dX9_seed_1 : decode cX9_seed 1 = .ok (.iconst 5, 1) := by decide +kernel
theorem dX9_seed_2 : decode cX9_seed 2 = .ok (.iload_n 1, 1) := by decide +kernel
theorem dX9_seed_3 : decode cX9_seed 3 = .ok (.invokevirtual 201, 3) := by decide +kernel
theorem dX9_seed_6 : decode cX9_seed 6 = .ok (.ireturn, 1) := by decide +kernel
theorem dX9_runs_0 : decode cX9_runs 0 = .ok (.aload_n 0, 1) := by decide +kernel
theorem dX9_runs_1 : decode cX9_runs 1 = .ok (.getfield 296, 3) := by decide +kernel
theorem dX9_runs_4 : decode cX9_runs 4 = .ok (.bipush 40, 2) := by decide +kernel
theorem dX9_runs_6 : decode cX9_runs 6 = .ok (.if_icmp .ge 23, 3) := by decide +kernel
theorem dX9_runs_9 : decode cX9_runs 9 = .ok (.aload_n 0, 1) := by decide +kernel
theorem dX9_runs_10 : decode cX9_runs 10 = .ok (.getfield 47, 3) := by decide +kernel
theorem dX9_runs_13 : decode cX9_runs 13 = .ok (.aload_n 0, 1) := by decide +kernel
theorem dX9_runs_14 : decode cX9_runs 14 = .ok (.getfield 296, 3) := by decide +kernel
theorem dX9_runs_17 : decode cX9_runs 17 = .ok (.iload_n 1, 1) := by decide +kernel
theorem dX9_runs_18 : decode cX9_runs 18 = .ok (.iastore, 1) := by decide +kernel
theorem dX9_runs_19 : decode cX9_runs 19 = .ok (.aload_n 0, 1) := by decide +kernel
theorem dX9_runs_20 : decode cX9_runs 20 = .ok (.dup, 1) := by decide +kernel
theorem dX9_runs_21 : decode cX9_runs 21 = .ok (.getfield 296, 3) := by decide +kernel
theorem dX9_runs_24 : decode cX9_runs 24 = .ok (.iconst 1, 1) := by decide +kernel
theorem dX9_runs_25 : decode cX9_runs 25 = .ok (.iadd, 1) := by decide +kernel
theorem dX9_runs_26 : decode cX9_runs 26 = .ok (.putfield 296, 3) := by decide +kernel
theorem dX9_runs_29 : decode cX9_runs 29 = .ok (.return_, 1) := by decide +kernel
theorem dX9_looksOf_0 : decode cX9_looksOf 0 = .ok (.aload_n 0, 1) := by decide +kernel
theorem dX9_looksOf_1 : decode cX9_looksOf 1 = .ok (.getfield 299, 3) := by decide +kernel
theorem dX9_looksOf_4 : decode cX9_looksOf 4 = .ok (.iconst 1, 1) := by decide +kernel
theorem dX9_looksOf_5 : decode cX9_looksOf 5 = .ok (.if_icmp .eq 11, 3) := by decide +kernel
theorem dX9_looksOf_8 : decode cX9_looksOf 8 = .ok (.aload_n 0, 1) := by decide +kernel
theorem dX9_looksOf_9 : decode cX9_looksOf 9 = .ok (.getfield 299, 3) := by decide +kernel
theorem dX9_looksOf_12 : decode cX9_looksOf 12 = .ok (.iconst 4, 1) := by decide +kernel
theorem dX9_looksOf_13 : decode cX9_looksOf 13 = .ok (.if_icmp .ne 7, 3) := by decide +kernel
theorem dX9_looksOf_16 : decode cX9_looksOf 16 = .ok (.iconst 1, 1) := by decide +kernel
theorem dX9_looksOf_17 : decode cX9_looksOf 17 = .ok (.goto 4, 3) := by decide +kernel
theorem dX9_looksOf_20 : decode cX9_looksOf 20 = .ok (.iconst 0, 1) := by decide +kernel
theorem dX9_looksOf_21 : decode cX9_looksOf 21 = .ok (.istore_n 2, 1) := by decide +kernel
theorem dX9_looksOf_22 : decode cX9_looksOf 22 = .ok (.iload_n 2, 1) := by decide +kernel
theorem dX9_looksOf_23 : decode cX9_looksOf 23 = .ok (.ifCond .eq 9, 3) := by decide +kernel
theorem dX9_looksOf_26 : decode cX9_looksOf 26 = .ok (.aload_n 0, 1) := by decide +kernel
theorem dX9_looksOf_27 : decode cX9_looksOf 27 = .ok (.bipush 20, 2) := by decide +kernel
theorem dX9_looksOf_29 : decode cX9_looksOf 29 = .ok (.invokevirtual 302, 3) := by decide +kernel
theorem dX9_looksOf_32 : decode cX9_looksOf 32 = .ok (.aload_n 0, 1) := by decide +kernel
theorem dX9_looksOf_33 : decode cX9_looksOf 33 = .ok (.bipush 10, 2) := by decide +kernel
theorem dX9_looksOf_35 : decode cX9_looksOf 35 = .ok (.invokevirtual 302, 3) := by decide +kernel
theorem dX9_looksOf_38 : decode cX9_looksOf 38 = .ok (.iload_n 2, 1) := by decide +kernel
theorem dX9_looksOf_39 : decode cX9_looksOf 39 = .ok (.ifCond .eq 14, 3) := by decide +kernel
theorem dX9_looksOf_42 : decode cX9_looksOf 42 = .ok (.iload_n 1, 1) := by decide +kernel
theorem dX9_looksOf_43 : decode cX9_looksOf 43 = .ok (.aload_n 0, 1) := by decide +kernel
theorem dX9_looksOf_44 : decode cX9_looksOf 44 = .ok (.getfield 305, 3) := by decide +kernel
theorem dX9_looksOf_47 : decode cX9_looksOf 47 = .ok (.iadd, 1) := by decide +kernel
theorem dX9_looksOf_48 : decode cX9_looksOf 48 = .ok (.iconst 3, 1) := by decide +kernel
theorem dX9_looksOf_49 : decode cX9_looksOf 49 = .ok (.imul, 1) := by decide +kernel
theorem dX9_looksOf_50 : decode cX9_looksOf 50 = .ok (.goto 9, 3) := by decide +kernel
theorem dX9_looksOf_53 : decode cX9_looksOf 53 = .ok (.iload_n 1, 1) := by decide +kernel
theorem dX9_looksOf_54 : decode cX9_looksOf 54 = .ok (.aload_n 0, 1) := by decide +kernel
theorem dX9_looksOf_55 : decode cX9_looksOf 55 = .ok (.getfield 305, 3) := by decide +kernel
theorem dX9_looksOf_58 : decode cX9_looksOf 58 = .ok (.iadd, 1) := by decide +kernel
theorem dX9_looksOf_59 : decode cX9_looksOf 59 = .ok (.ireturn, 1) := by decide +kernel
theorem dX9_paysOf_0 : decode cX9_paysOf 0 = .ok (.iload_n 1, 1) := by decide +kernel
theorem dX9_paysOf_1 : decode cX9_paysOf 1 = .ok (.istore_n 2, 1) := by decide +kernel
theorem dX9_paysOf_2 : decode cX9_paysOf 2 = .ok (.aload_n 0, 1) := by decide +kernel
theorem dX9_paysOf_3 : decode cX9_paysOf 3 = .ok (.getfield 299, 3) := by decide +kernel
theorem dX9_paysOf_6 : decode cX9_paysOf 6 = .ok (.bipush 6, 2) := by decide +kernel
theorem dX9_paysOf_8 : decode cX9_paysOf 8 = .ok (.if_icmp .ne 12, 3) := by decide +kernel
theorem dX9_paysOf_11 : decode cX9_paysOf 11 = .ok (.aload_n 0, 1) := by decide +kernel
theorem dX9_paysOf_12 : decode cX9_paysOf 12 = .ok (.bipush 70, 2) := by decide +kernel
theorem dX9_paysOf_14 : decode cX9_paysOf 14 = .ok (.invokevirtual 302, 3) := by decide +kernel
theorem dX9_paysOf_17 : decode cX9_paysOf 17 = .ok (.iinc 2 1, 3) := by decide +kernel
theorem dX9_paysOf_20 : decode cX9_paysOf 20 = .ok (.aload_n 0, 1) := by decide +kernel
theorem dX9_paysOf_21 : decode cX9_paysOf 21 = .ok (.getfield 299, 3) := by decide +kernel
theorem dX9_paysOf_24 : decode cX9_paysOf 24 = .ok (.iconst 3, 1) := by decide +kernel
theorem dX9_paysOf_25 : decode cX9_paysOf 25 = .ok (.if_icmp .eq 12, 3) := by decide +kernel
theorem dX9_paysOf_28 : decode cX9_paysOf 28 = .ok (.aload_n 0, 1) := by decide +kernel
theorem dX9_paysOf_29 : decode cX9_paysOf 29 = .ok (.getfield 299, 3) := by decide +kernel
theorem dX9_paysOf_32 : decode cX9_paysOf 32 = .ok (.bipush 6, 2) := by decide +kernel
theorem dX9_paysOf_34 : decode cX9_paysOf 34 = .ok (.if_icmp .ne 7, 3) := by decide +kernel
theorem dX9_paysOf_37 : decode cX9_paysOf 37 = .ok (.iconst 1, 1) := by decide +kernel
theorem dX9_paysOf_38 : decode cX9_paysOf 38 = .ok (.goto 4, 3) := by decide +kernel
theorem dX9_paysOf_41 : decode cX9_paysOf 41 = .ok (.iconst 0, 1) := by decide +kernel
theorem dX9_paysOf_42 : decode cX9_paysOf 42 = .ok (.istore_n 3, 1) := by decide +kernel
theorem dX9_paysOf_43 : decode cX9_paysOf 43 = .ok (.iload_n 3, 1) := by decide +kernel
theorem dX9_paysOf_44 : decode cX9_paysOf 44 = .ok (.ifCond .eq 9, 3) := by decide +kernel
theorem dX9_paysOf_47 : decode cX9_paysOf 47 = .ok (.aload_n 0, 1) := by decide +kernel
theorem dX9_paysOf_48 : decode cX9_paysOf 48 = .ok (.bipush 40, 2) := by decide +kernel
theorem dX9_paysOf_50 : decode cX9_paysOf 50 = .ok (.invokevirtual 302, 3) := by decide +kernel
theorem dX9_paysOf_53 : decode cX9_paysOf 53 = .ok (.aload_n 0, 1) := by decide +kernel
theorem dX9_paysOf_54 : decode cX9_paysOf 54 = .ok (.bipush 11, 2) := by decide +kernel
theorem dX9_paysOf_56 : decode cX9_paysOf 56 = .ok (.invokevirtual 302, 3) := by decide +kernel
theorem dX9_paysOf_59 : decode cX9_paysOf 59 = .ok (.aload_n 0, 1) := by decide +kernel
theorem dX9_paysOf_60 : decode cX9_paysOf 60 = .ok (.iload_n 2, 1) := by decide +kernel
theorem dX9_paysOf_61 : decode cX9_paysOf 61 = .ok (.invokevirtual 308, 3) := by decide +kernel
theorem dX9_paysOf_64 : decode cX9_paysOf 64 = .ok (.iconst 2, 1) := by decide +kernel
theorem dX9_paysOf_65 : decode cX9_paysOf 65 = .ok (.imul, 1) := by decide +kernel
theorem dX9_paysOf_66 : decode cX9_paysOf 66 = .ok (.istore 4, 2) := by decide +kernel
theorem dX9_paysOf_68 : decode cX9_paysOf 68 = .ok (.iload_n 3, 1) := by decide +kernel
theorem dX9_paysOf_69 : decode cX9_paysOf 69 = .ok (.ifCond .eq 14, 3) := by decide +kernel
theorem dX9_paysOf_72 : decode cX9_paysOf 72 = .ok (.iload 4, 2) := by decide +kernel
theorem dX9_paysOf_74 : decode cX9_paysOf 74 = .ok (.aload_n 0, 1) := by decide +kernel
theorem dX9_paysOf_75 : decode cX9_paysOf 75 = .ok (.iconst 1, 1) := by decide +kernel
theorem dX9_paysOf_76 : decode cX9_paysOf 76 = .ok (.invokevirtual 311, 3) := by decide +kernel
theorem dX9_paysOf_79 : decode cX9_paysOf 79 = .ok (.isub, 1) := by decide +kernel
theorem dX9_paysOf_80 : decode cX9_paysOf 80 = .ok (.goto 5, 3) := by decide +kernel
theorem dX9_paysOf_83 : decode cX9_paysOf 83 = .ok (.iload 4, 2) := by decide +kernel
theorem dX9_paysOf_85 : decode cX9_paysOf 85 = .ok (.ireturn, 1) := by decide +kernel
theorem dX9_holdsOf_0 : decode cX9_holdsOf 0 = .ok (.aload_n 0, 1) := by decide +kernel
theorem dX9_holdsOf_1 : decode cX9_holdsOf 1 = .ok (.getfield 299, 3) := by decide +kernel
theorem dX9_holdsOf_4 : decode cX9_holdsOf 4 = .ok (.iconst 5, 1) := by decide +kernel
theorem dX9_holdsOf_5 : decode cX9_holdsOf 5 = .ok (.if_icmp .ne 9, 3) := by decide +kernel
theorem dX9_holdsOf_8 : decode cX9_holdsOf 8 = .ok (.aload_n 0, 1) := by decide +kernel
theorem dX9_holdsOf_9 : decode cX9_holdsOf 9 = .ok (.bipush 60, 2) := by decide +kernel
theorem dX9_holdsOf_11 : decode cX9_holdsOf 11 = .ok (.invokevirtual 302, 3) := by decide +kernel
theorem dX9_holdsOf_14 : decode cX9_holdsOf 14 = .ok (.aload_n 0, 1) := by decide +kernel
theorem dX9_holdsOf_15 : decode cX9_holdsOf 15 = .ok (.getfield 299, 3) := by decide +kernel
theorem dX9_holdsOf_18 : decode cX9_holdsOf 18 = .ok (.iconst 2, 1) := by decide +kernel
theorem dX9_holdsOf_19 : decode cX9_holdsOf 19 = .ok (.if_icmp .eq 11, 3) := by decide +kernel
theorem dX9_holdsOf_22 : decode cX9_holdsOf 22 = .ok (.aload_n 0, 1) := by decide +kernel
theorem dX9_holdsOf_23 : decode cX9_holdsOf 23 = .ok (.getfield 299, 3) := by decide +kernel
theorem dX9_holdsOf_26 : decode cX9_holdsOf 26 = .ok (.iconst 5, 1) := by decide +kernel
theorem dX9_holdsOf_27 : decode cX9_holdsOf 27 = .ok (.if_icmp .ne 7, 3) := by decide +kernel
theorem dX9_holdsOf_30 : decode cX9_holdsOf 30 = .ok (.iconst 1, 1) := by decide +kernel
theorem dX9_holdsOf_31 : decode cX9_holdsOf 31 = .ok (.goto 4, 3) := by decide +kernel
theorem dX9_holdsOf_34 : decode cX9_holdsOf 34 = .ok (.iconst 0, 1) := by decide +kernel
theorem dX9_holdsOf_35 : decode cX9_holdsOf 35 = .ok (.istore_n 2, 1) := by decide +kernel
theorem dX9_holdsOf_36 : decode cX9_holdsOf 36 = .ok (.iload_n 2, 1) := by decide +kernel
theorem dX9_holdsOf_37 : decode cX9_holdsOf 37 = .ok (.ifCond .eq 9, 3) := by decide +kernel
theorem dX9_holdsOf_40 : decode cX9_holdsOf 40 = .ok (.aload_n 0, 1) := by decide +kernel
theorem dX9_holdsOf_41 : decode cX9_holdsOf 41 = .ok (.bipush 30, 2) := by decide +kernel
theorem dX9_holdsOf_43 : decode cX9_holdsOf 43 = .ok (.invokevirtual 302, 3) := by decide +kernel
theorem dX9_holdsOf_46 : decode cX9_holdsOf 46 = .ok (.aload_n 0, 1) := by decide +kernel
theorem dX9_holdsOf_47 : decode cX9_holdsOf 47 = .ok (.bipush 12, 2) := by decide +kernel
theorem dX9_holdsOf_49 : decode cX9_holdsOf 49 = .ok (.invokevirtual 302, 3) := by decide +kernel
theorem dX9_holdsOf_52 : decode cX9_holdsOf 52 = .ok (.iload_n 2, 1) := by decide +kernel
theorem dX9_holdsOf_53 : decode cX9_holdsOf 53 = .ok (.ifCond .eq 13, 3) := by decide +kernel
theorem dX9_holdsOf_56 : decode cX9_holdsOf 56 = .ok (.iload_n 1, 1) := by decide +kernel
theorem dX9_holdsOf_57 : decode cX9_holdsOf 57 = .ok (.aload_n 0, 1) := by decide +kernel
theorem dX9_holdsOf_58 : decode cX9_holdsOf 58 = .ok (.getfield 314, 3) := by decide +kernel
theorem dX9_holdsOf_61 : decode cX9_holdsOf 61 = .ok (.isub, 1) := by decide +kernel
theorem dX9_holdsOf_62 : decode cX9_holdsOf 62 = .ok (.ineg, 1) := by decide +kernel
theorem dX9_holdsOf_63 : decode cX9_holdsOf 63 = .ok (.goto 9, 3) := by decide +kernel
theorem dX9_holdsOf_66 : decode cX9_holdsOf 66 = .ok (.iload_n 1, 1) := by decide +kernel
theorem dX9_holdsOf_67 : decode cX9_holdsOf 67 = .ok (.aload_n 0, 1) := by decide +kernel
theorem dX9_holdsOf_68 : decode cX9_holdsOf 68 = .ok (.getfield 314, 3) := by decide +kernel
theorem dX9_holdsOf_71 : decode cX9_holdsOf 71 = .ok (.isub, 1) := by decide +kernel
theorem dX9_holdsOf_72 : decode cX9_holdsOf 72 = .ok (.istore_n 3, 1) := by decide +kernel
theorem dX9_holdsOf_73 : decode cX9_holdsOf 73 = .ok (.aload_n 0, 1) := by decide +kernel
theorem dX9_holdsOf_74 : decode cX9_holdsOf 74 = .ok (.getfield 299, 3) := by decide +kernel
theorem dX9_holdsOf_77 : decode cX9_holdsOf 77 = .ok (.iconst 5, 1) := by decide +kernel
theorem dX9_holdsOf_78 : decode cX9_holdsOf 78 = .ok (.if_icmp .ne 12, 3) := by decide +kernel
theorem dX9_holdsOf_81 : decode cX9_holdsOf 81 = .ok (.iload_n 3, 1) := by decide +kernel
theorem dX9_holdsOf_82 : decode cX9_holdsOf 82 = .ok (.aload_n 0, 1) := by decide +kernel
theorem dX9_holdsOf_83 : decode cX9_holdsOf 83 = .ok (.getfield 305, 3) := by decide +kernel
theorem dX9_holdsOf_86 : decode cX9_holdsOf 86 = .ok (.ixor, 1) := by decide +kernel
theorem dX9_holdsOf_87 : decode cX9_holdsOf 87 = .ok (.goto 4, 3) := by decide +kernel
theorem dX9_holdsOf_90 : decode cX9_holdsOf 90 = .ok (.iload_n 3, 1) := by decide +kernel
theorem dX9_holdsOf_91 : decode cX9_holdsOf 91 = .ok (.ireturn, 1) := by decide +kernel
theorem dX9_plainTells_0 : decode cX9_plainTells 0 = .ok (.aload_n 0, 1) := by decide +kernel
theorem dX9_plainTells_1 : decode cX9_plainTells 1 = .ok (.bipush 13, 2) := by decide +kernel
theorem dX9_plainTells_3 : decode cX9_plainTells 3 = .ok (.invokevirtual 302, 3) := by decide +kernel
theorem dX9_plainTells_6 : decode cX9_plainTells 6 = .ok (.aload_n 0, 1) := by decide +kernel
theorem dX9_plainTells_7 : decode cX9_plainTells 7 = .ok (.iload_n 1, 1) := by decide +kernel
theorem dX9_plainTells_8 : decode cX9_plainTells 8 = .ok (.invokevirtual 317, 3) := by decide +kernel
theorem dX9_plainTells_11 : decode cX9_plainTells 11 = .ok (.istore_n 2, 1) := by decide +kernel
theorem dX9_plainTells_12 : decode cX9_plainTells 12 = .ok (.iload_n 2, 1) := by decide +kernel
theorem dX9_plainTells_13 : decode cX9_plainTells 13 = .ok (.aload_n 0, 1) := by decide +kernel
theorem dX9_plainTells_14 : decode cX9_plainTells 14 = .ok (.iload_n 1, 1) := by decide +kernel
theorem dX9_plainTells_15 : decode cX9_plainTells 15 = .ok (.invokevirtual 311, 3) := by decide +kernel
theorem dX9_plainTells_18 : decode cX9_plainTells 18 = .ok (.ixor, 1) := by decide +kernel
theorem dX9_plainTells_19 : decode cX9_plainTells 19 = .ok (.ireturn, 1) := by decide +kernel
theorem dX9_tellsOf_0 : decode cX9_tellsOf 0 = .ok (.aload_n 0, 1) := by decide +kernel
theorem dX9_tellsOf_1 : decode cX9_tellsOf 1 = .ok (.getfield 299, 3) := by decide +kernel
theorem dX9_tellsOf_4 : decode cX9_tellsOf 4 = .ok (.iconst 5, 1) := by decide +kernel
theorem dX9_tellsOf_5 : decode cX9_tellsOf 5 = .ok (.if_icmp .ne 23, 3) := by decide +kernel
theorem dX9_tellsOf_8 : decode cX9_tellsOf 8 = .ok (.aload_n 0, 1) := by decide +kernel
theorem dX9_tellsOf_9 : decode cX9_tellsOf 9 = .ok (.bipush 61, 2) := by decide +kernel
theorem dX9_tellsOf_11 : decode cX9_tellsOf 11 = .ok (.invokevirtual 302, 3) := by decide +kernel
theorem dX9_tellsOf_14 : decode cX9_tellsOf 14 = .ok (.aload_n 0, 1) := by decide +kernel
theorem dX9_tellsOf_15 : decode cX9_tellsOf 15 = .ok (.iload_n 1, 1) := by decide +kernel
theorem dX9_tellsOf_16 : decode cX9_tellsOf 16 = .ok (.invokevirtual 317, 3) := by decide +kernel
theorem dX9_tellsOf_19 : decode cX9_tellsOf 19 = .ok (.istore_n 2, 1) := by decide +kernel
theorem dX9_tellsOf_20 : decode cX9_tellsOf 20 = .ok (.iload_n 2, 1) := by decide +kernel
theorem dX9_tellsOf_21 : decode cX9_tellsOf 21 = .ok (.aload_n 0, 1) := by decide +kernel
theorem dX9_tellsOf_22 : decode cX9_tellsOf 22 = .ok (.iload_n 1, 1) := by decide +kernel
theorem dX9_tellsOf_23 : decode cX9_tellsOf 23 = .ok (.invokevirtual 320, 3) := by decide +kernel
theorem dX9_tellsOf_26 : decode cX9_tellsOf 26 = .ok (.isub, 1) := by decide +kernel
theorem dX9_tellsOf_27 : decode cX9_tellsOf 27 = .ok (.ireturn, 1) := by decide +kernel
theorem dX9_tellsOf_28 : decode cX9_tellsOf 28 = .ok (.aload_n 0, 1) := by decide +kernel
theorem dX9_tellsOf_29 : decode cX9_tellsOf 29 = .ok (.getfield 299, 3) := by decide +kernel
theorem dX9_tellsOf_32 : decode cX9_tellsOf 32 = .ok (.iconst 4, 1) := by decide +kernel
theorem dX9_tellsOf_33 : decode cX9_tellsOf 33 = .ok (.if_icmp .ne 23, 3) := by decide +kernel
theorem dX9_tellsOf_36 : decode cX9_tellsOf 36 = .ok (.aload_n 0, 1) := by decide +kernel
theorem dX9_tellsOf_37 : decode cX9_tellsOf 37 = .ok (.bipush 50, 2) := by decide +kernel
theorem dX9_tellsOf_39 : decode cX9_tellsOf 39 = .ok (.invokevirtual 302, 3) := by decide +kernel
theorem dX9_tellsOf_42 : decode cX9_tellsOf 42 = .ok (.aload_n 0, 1) := by decide +kernel
theorem dX9_tellsOf_43 : decode cX9_tellsOf 43 = .ok (.iload_n 1, 1) := by decide +kernel
theorem dX9_tellsOf_44 : decode cX9_tellsOf 44 = .ok (.invokevirtual 320, 3) := by decide +kernel
theorem dX9_tellsOf_47 : decode cX9_tellsOf 47 = .ok (.istore_n 2, 1) := by decide +kernel
theorem dX9_tellsOf_48 : decode cX9_tellsOf 48 = .ok (.iload_n 2, 1) := by decide +kernel
theorem dX9_tellsOf_49 : decode cX9_tellsOf 49 = .ok (.aload_n 0, 1) := by decide +kernel
theorem dX9_tellsOf_50 : decode cX9_tellsOf 50 = .ok (.iconst 2, 1) := by decide +kernel
theorem dX9_tellsOf_51 : decode cX9_tellsOf 51 = .ok (.invokevirtual 308, 3) := by decide +kernel
theorem dX9_tellsOf_54 : decode cX9_tellsOf 54 = .ok (.isub, 1) := by decide +kernel
theorem dX9_tellsOf_55 : decode cX9_tellsOf 55 = .ok (.ireturn, 1) := by decide +kernel
theorem dX9_tellsOf_56 : decode cX9_tellsOf 56 = .ok (.aload_n 0, 1) := by decide +kernel
theorem dX9_tellsOf_57 : decode cX9_tellsOf 57 = .ok (.iload_n 1, 1) := by decide +kernel
theorem dX9_tellsOf_58 : decode cX9_tellsOf 58 = .ok (.invokevirtual 320, 3) := by decide +kernel
theorem dX9_tellsOf_61 : decode cX9_tellsOf 61 = .ok (.ireturn, 1) := by decide +kernel
theorem dX9_voice_0 : decode cX9_voice 0 = .ok (.aload_n 0, 1) := by decide +kernel
theorem dX9_voice_1 : decode cX9_voice 1 = .ok (.iload_n 1, 1) := by decide +kernel
theorem dX9_voice_2 : decode cX9_voice 2 = .ok (.invokevirtual 227, 3) := by decide +kernel
theorem dX9_voice_5 : decode cX9_voice 5 = .ok (.ifCond .eq 12, 3) := by decide +kernel
theorem dX9_voice_8 : decode cX9_voice 8 = .ok (.iload_n 2, 1) := by decide +kernel
theorem dX9_voice_9 : decode cX9_voice 9 = .ok (.iconst 0, 1) := by decide +kernel
theorem dX9_voice_10 : decode cX9_voice 10 = .ok (.iconst 3, 1) := by decide +kernel
theorem dX9_voice_11 : decode cX9_voice 11 = .ok (.invokestatic 76, 3) := by decide +kernel
theorem dX9_voice_14 : decode cX9_voice 14 = .ok (.ifCond .ne 10, 3) := by decide +kernel
theorem dX9_voice_17 : decode cX9_voice 17 = .ok (.aload_n 0, 1) := by decide +kernel
theorem dX9_voice_18 : decode cX9_voice 18 = .ok (.ldc 80, 2) := by decide +kernel
theorem dX9_voice_20 : decode cX9_voice 20 = .ok (.invokevirtual 81, 3) := by decide +kernel
theorem dX9_voice_23 : decode cX9_voice 23 = .ok (.ireturn, 1) := by decide +kernel
theorem dX9_voice_24 : decode cX9_voice 24 = .ok (.aload_n 0, 1) := by decide +kernel
theorem dX9_voice_25 : decode cX9_voice 25 = .ok (.iconst 0, 1) := by decide +kernel
theorem dX9_voice_26 : decode cX9_voice 26 = .ok (.putfield 296, 3) := by decide +kernel
theorem dX9_voice_29 : decode cX9_voice 29 = .ok (.aload_n 0, 1) := by decide +kernel
theorem dX9_voice_30 : decode cX9_voice 30 = .ok (.aload_n 0, 1) := by decide +kernel
theorem dX9_voice_31 : decode cX9_voice 31 = .ok (.iload_n 1, 1) := by decide +kernel
theorem dX9_voice_32 : decode cX9_voice 32 = .ok (.iconst 0, 1) := by decide +kernel
theorem dX9_voice_33 : decode cX9_voice 33 = .ok (.invokevirtual 179, 3) := by decide +kernel
theorem dX9_voice_36 : decode cX9_voice 36 = .ok (.putfield 299, 3) := by decide +kernel
theorem dX9_voice_39 : decode cX9_voice 39 = .ok (.aload_n 0, 1) := by decide +kernel
theorem dX9_voice_40 : decode cX9_voice 40 = .ok (.iload_n 1, 1) := by decide +kernel
theorem dX9_voice_41 : decode cX9_voice 41 = .ok (.putfield 305, 3) := by decide +kernel
theorem dX9_voice_44 : decode cX9_voice 44 = .ok (.aload_n 0, 1) := by decide +kernel
theorem dX9_voice_45 : decode cX9_voice 45 = .ok (.aload_n 0, 1) := by decide +kernel
theorem dX9_voice_46 : decode cX9_voice 46 = .ok (.iload_n 1, 1) := by decide +kernel
theorem dX9_voice_47 : decode cX9_voice 47 = .ok (.iconst 1, 1) := by decide +kernel
theorem dX9_voice_48 : decode cX9_voice 48 = .ok (.invokevirtual 179, 3) := by decide +kernel
theorem dX9_voice_51 : decode cX9_voice 51 = .ok (.putfield 314, 3) := by decide +kernel
theorem dX9_voice_54 : decode cX9_voice 54 = .ok (.iload_n 2, 1) := by decide +kernel
theorem dX9_voice_55 : decode cX9_voice 55 = .ok (.ifCond .ne 11, 3) := by decide +kernel
theorem dX9_voice_58 : decode cX9_voice 58 = .ok (.aload_n 0, 1) := by decide +kernel
theorem dX9_voice_59 : decode cX9_voice 59 = .ok (.iload_n 3, 1) := by decide +kernel
theorem dX9_voice_60 : decode cX9_voice 60 = .ok (.invokevirtual 308, 3) := by decide +kernel
theorem dX9_voice_63 : decode cX9_voice 63 = .ok (.goto 34, 3) := by decide +kernel
theorem dX9_voice_66 : decode cX9_voice 66 = .ok (.iload_n 2, 1) := by decide +kernel
theorem dX9_voice_67 : decode cX9_voice 67 = .ok (.iconst 1, 1) := by decide +kernel
theorem dX9_voice_68 : decode cX9_voice 68 = .ok (.if_icmp .ne 11, 3) := by decide +kernel
theorem dX9_voice_71 : decode cX9_voice 71 = .ok (.aload_n 0, 1) := by decide +kernel
theorem dX9_voice_72 : decode cX9_voice 72 = .ok (.iload_n 3, 1) := by decide +kernel
theorem dX9_voice_73 : decode cX9_voice 73 = .ok (.invokevirtual 317, 3) := by decide +kernel
theorem dX9_voice_76 : decode cX9_voice 76 = .ok (.goto 21, 3) := by decide +kernel
theorem dX9_voice_79 : decode cX9_voice 79 = .ok (.iload_n 2, 1) := by decide +kernel
theorem dX9_voice_80 : decode cX9_voice 80 = .ok (.iconst 2, 1) := by decide +kernel
theorem dX9_voice_81 : decode cX9_voice 81 = .ok (.if_icmp .ne 11, 3) := by decide +kernel
theorem dX9_voice_84 : decode cX9_voice 84 = .ok (.aload_n 0, 1) := by decide +kernel
theorem dX9_voice_85 : decode cX9_voice 85 = .ok (.iload_n 3, 1) := by decide +kernel
theorem dX9_voice_86 : decode cX9_voice 86 = .ok (.invokevirtual 311, 3) := by decide +kernel
theorem dX9_voice_89 : decode cX9_voice 89 = .ok (.goto 8, 3) := by decide +kernel
theorem dX9_voice_92 : decode cX9_voice 92 = .ok (.aload_n 0, 1) := by decide +kernel
theorem dX9_voice_93 : decode cX9_voice 93 = .ok (.iload_n 3, 1) := by decide +kernel
theorem dX9_voice_94 : decode cX9_voice 94 = .ok (.invokevirtual 323, 3) := by decide +kernel
theorem dX9_voice_97 : decode cX9_voice 97 = .ok (.ireturn, 1) := by decide +kernel
theorem dX9_trace_0 : decode cX9_trace 0 = .ok (.iload_n 1, 1) := by decide +kernel
theorem dX9_trace_1 : decode cX9_trace 1 = .ok (.iconst 0, 1) := by decide +kernel
theorem dX9_trace_2 : decode cX9_trace 2 = .ok (.aload_n 0, 1) := by decide +kernel
theorem dX9_trace_3 : decode cX9_trace 3 = .ok (.getfield 296, 3) := by decide +kernel
theorem dX9_trace_6 : decode cX9_trace 6 = .ok (.iconst 1, 1) := by decide +kernel
theorem dX9_trace_7 : decode cX9_trace 7 = .ok (.isub, 1) := by decide +kernel
theorem dX9_trace_8 : decode cX9_trace 8 = .ok (.invokestatic 76, 3) := by decide +kernel
theorem dX9_trace_11 : decode cX9_trace 11 = .ok (.ifCond .eq 12, 3) := by decide +kernel
theorem dX9_trace_14 : decode cX9_trace 14 = .ok (.aload_n 0, 1) := by decide +kernel
theorem dX9_trace_15 : decode cX9_trace 15 = .ok (.getfield 47, 3) := by decide +kernel
theorem dX9_trace_18 : decode cX9_trace 18 = .ok (.iload_n 1, 1) := by decide +kernel
theorem dX9_trace_19 : decode cX9_trace 19 = .ok (.iaload, 1) := by decide +kernel
theorem dX9_trace_20 : decode cX9_trace 20 = .ok (.goto 10, 3) := by decide +kernel
theorem dX9_trace_23 : decode cX9_trace 23 = .ok (.aload_n 0, 1) := by decide +kernel
theorem dX9_trace_24 : decode cX9_trace 24 = .ok (.ldc_w 268, 3) := by decide +kernel
theorem dX9_trace_27 : decode cX9_trace 27 = .ok (.invokevirtual 81, 3) := by decide +kernel
theorem dX9_trace_30 : decode cX9_trace 30 = .ok (.ireturn, 1) := by decide +kernel
theorem dX9_isSheet_0 : decode cX9_isSheet 0 = .ok (.iload_n 0, 1) := by decide +kernel
theorem dX9_isSheet_1 : decode cX9_isSheet 1 = .ok (.iconst 0, 1) := by decide +kernel
theorem dX9_isSheet_2 : decode cX9_isSheet 2 = .ok (.iconst 3, 1) := by decide +kernel
theorem dX9_isSheet_3 : decode cX9_isSheet 3 = .ok (.invokestatic 76, 3) := by decide +kernel
theorem dX9_isSheet_6 : decode cX9_isSheet 6 = .ok (.ireturn, 1) := by decide +kernel
theorem dX9_sheet_0 : decode cX9_sheet 0 = .ok (.iload_n 1, 1) := by decide +kernel
theorem dX9_sheet_1 : decode cX9_sheet 1 = .ok (.invokestatic 287, 3) := by decide +kernel
theorem dX9_sheet_4 : decode cX9_sheet 4 = .ok (.ifCond .eq 25, 3) := by decide +kernel
theorem dX9_sheet_7 : decode cX9_sheet 7 = .ok (.iload_n 2, 1) := by decide +kernel
theorem dX9_sheet_8 : decode cX9_sheet 8 = .ok (.ifCond .eq 28, 3) := by decide +kernel
theorem dX9_sheet_11 : decode cX9_sheet 11 = .ok (.iload_n 2, 1) := by decide +kernel
theorem dX9_sheet_12 : decode cX9_sheet 12 = .ok (.bipush 8, 2) := by decide +kernel
theorem dX9_sheet_14 : decode cX9_sheet 14 = .ok (.if_icmp .eq 22, 3) := by decide +kernel
theorem dX9_sheet_17 : decode cX9_sheet 17 = .ok (.iload_n 2, 1) := by decide +kernel
theorem dX9_sheet_18 : decode cX9_sheet 18 = .ok (.bipush 16, 2) := by decide +kernel
theorem dX9_sheet_20 : decode cX9_sheet 20 = .ok (.if_icmp .eq 16, 3) := by decide +kernel
theorem dX9_sheet_23 : decode cX9_sheet 23 = .ok (.iload_n 2, 1) := by decide +kernel
theorem dX9_sheet_24 : decode cX9_sheet 24 = .ok (.bipush 32, 2) := by decide +kernel
theorem dX9_sheet_26 : decode cX9_sheet 26 = .ok (.if_icmp .eq 10, 3) := by decide +kernel
theorem dX9_sheet_29 : decode cX9_sheet 29 = .ok (.aload_n 0, 1) := by decide +kernel
theorem dX9_sheet_30 : decode cX9_sheet 30 = .ok (.ldc 80, 2) := by decide +kernel
theorem dX9_sheet_32 : decode cX9_sheet 32 = .ok (.invokevirtual 81, 3) := by decide +kernel
theorem dX9_sheet_35 : decode cX9_sheet 35 = .ok (.ireturn, 1) := by decide +kernel
theorem dX9_sheet_36 : decode cX9_sheet 36 = .ok (.iload_n 2, 1) := by decide +kernel
theorem dX9_sheet_37 : decode cX9_sheet 37 = .ok (.ifCond .eq 14, 3) := by decide +kernel
theorem dX9_sheet_40 : decode cX9_sheet 40 = .ok (.iload_n 3, 1) := by decide +kernel
theorem dX9_sheet_41 : decode cX9_sheet 41 = .ok (.ifCond .ge 10, 3) := by decide +kernel
theorem dX9_sheet_44 : decode cX9_sheet 44 = .ok (.aload_n 0, 1) := by decide +kernel
theorem dX9_sheet_45 : decode cX9_sheet 45 = .ok (.ldc 242, 2) := by decide +kernel
theorem dX9_sheet_47 : decode cX9_sheet 47 = .ok (.invokevirtual 81, 3) := by decide +kernel
theorem dX9_sheet_50 : decode cX9_sheet 50 = .ok (.ireturn, 1) := by decide +kernel
theorem dX9_sheet_51 : decode cX9_sheet 51 = .ok (.iload_n 2, 1) := by decide +kernel
theorem dX9_sheet_52 : decode cX9_sheet 52 = .ok (.ifCond .eq 16, 3) := by decide +kernel
theorem dX9_sheet_55 : decode cX9_sheet 55 = .ok (.iload_n 3, 1) := by decide +kernel
theorem dX9_sheet_56 : decode cX9_sheet 56 = .ok (.bipush 40, 2) := by decide +kernel
theorem dX9_sheet_58 : decode cX9_sheet 58 = .ok (.if_icmp .le 10, 3) := by decide +kernel
theorem dX9_sheet_61 : decode cX9_sheet 61 = .ok (.aload_n 0, 1) := by decide +kernel
theorem dX9_sheet_62 : decode cX9_sheet 62 = .ok (.ldc 80, 2) := by decide +kernel
theorem dX9_sheet_64 : decode cX9_sheet 64 = .ok (.invokevirtual 81, 3) := by decide +kernel
theorem dX9_sheet_67 : decode cX9_sheet 67 = .ok (.ireturn, 1) := by decide +kernel
theorem dX9_sheet_68 : decode cX9_sheet 68 = .ok (.aload_n 0, 1) := by decide +kernel
theorem dX9_sheet_69 : decode cX9_sheet 69 = .ok (.getfield 50, 3) := by decide +kernel
theorem dX9_sheet_72 : decode cX9_sheet 72 = .ok (.iload_n 1, 1) := by decide +kernel
theorem dX9_sheet_73 : decode cX9_sheet 73 = .ok (.iload_n 2, 1) := by decide +kernel
theorem dX9_sheet_74 : decode cX9_sheet 74 = .ok (.iastore, 1) := by decide +kernel
theorem dX9_sheet_75 : decode cX9_sheet 75 = .ok (.aload_n 0, 1) := by decide +kernel
theorem dX9_sheet_76 : decode cX9_sheet 76 = .ok (.getfield 53, 3) := by decide +kernel
theorem dX9_sheet_79 : decode cX9_sheet 79 = .ok (.iload_n 1, 1) := by decide +kernel
theorem dX9_sheet_80 : decode cX9_sheet 80 = .ok (.iload_n 2, 1) := by decide +kernel
theorem dX9_sheet_81 : decode cX9_sheet 81 = .ok (.ifCond .ne 7, 3) := by decide +kernel
theorem dX9_sheet_84 : decode cX9_sheet 84 = .ok (.iconst 0, 1) := by decide +kernel
theorem dX9_sheet_85 : decode cX9_sheet 85 = .ok (.goto 4, 3) := by decide +kernel
theorem dX9_sheet_88 : decode cX9_sheet 88 = .ok (.iload_n 3, 1) := by decide +kernel
theorem dX9_sheet_89 : decode cX9_sheet 89 = .ok (.iastore, 1) := by decide +kernel
theorem dX9_sheet_90 : decode cX9_sheet 90 = .ok (.iconst 0, 1) := by decide +kernel
theorem dX9_sheet_91 : decode cX9_sheet 91 = .ok (.istore 4, 2) := by decide +kernel
theorem dX9_sheet_93 : decode cX9_sheet 93 = .ok (.iload 4, 2) := by decide +kernel
theorem dX9_sheet_95 : decode cX9_sheet 95 = .ok (.bipush 40, 2) := by decide +kernel
theorem dX9_sheet_97 : decode cX9_sheet 97 = .ok (.if_icmp .ge 22, 3) := by decide +kernel
theorem dX9_sheet_100 : decode cX9_sheet 100 = .ok (.aload_n 0, 1) := by decide +kernel
theorem dX9_sheet_101 : decode cX9_sheet 101 = .ok (.getfield 56, 3) := by decide +kernel
theorem dX9_sheet_104 : decode cX9_sheet 104 = .ok (.bipush 40, 2) := by decide +kernel
theorem dX9_sheet_106 : decode cX9_sheet 106 = .ok (.iload_n 1, 1) := by decide +kernel
theorem dX9_sheet_107 : decode cX9_sheet 107 = .ok (.imul, 1) := by decide +kernel
theorem dX9_sheet_108 : decode cX9_sheet 108 = .ok (.iload 4, 2) := by decide +kernel
theorem dX9_sheet_110 : decode cX9_sheet 110 = .ok (.iadd, 1) := by decide +kernel
theorem dX9_sheet_111 : decode cX9_sheet 111 = .ok (.iconst 0, 1) := by decide +kernel
theorem dX9_sheet_112 : decode cX9_sheet 112 = .ok (.iastore, 1) := by decide +kernel
theorem dX9_sheet_113 : decode cX9_sheet 113 = .ok (.iinc 4 1, 3) := by decide +kernel
theorem dX9_sheet_116 : decode cX9_sheet 116 = .ok (.goto (-23), 3) := by decide +kernel
theorem dX9_sheet_119 : decode cX9_sheet 119 = .ok (.iconst 1, 1) := by decide +kernel
theorem dX9_sheet_120 : decode cX9_sheet 120 = .ok (.ireturn, 1) := by decide +kernel
theorem dX9_put_0 : decode cX9_put 0 = .ok (.iload_n 1, 1) := by decide +kernel
theorem dX9_put_1 : decode cX9_put 1 = .ok (.invokestatic 287, 3) := by decide +kernel
theorem dX9_put_4 : decode cX9_put 4 = .ok (.ifCond .ne 10, 3) := by decide +kernel
theorem dX9_put_7 : decode cX9_put 7 = .ok (.aload_n 0, 1) := by decide +kernel
theorem dX9_put_8 : decode cX9_put 8 = .ok (.ldc 80, 2) := by decide +kernel
theorem dX9_put_10 : decode cX9_put 10 = .ok (.invokevirtual 81, 3) := by decide +kernel
theorem dX9_put_13 : decode cX9_put 13 = .ok (.ireturn, 1) := by decide +kernel
theorem dX9_put_14 : decode cX9_put 14 = .ok (.aload_n 0, 1) := by decide +kernel
theorem dX9_put_15 : decode cX9_put 15 = .ok (.getfield 50, 3) := by decide +kernel
theorem dX9_put_18 : decode cX9_put 18 = .ok (.iload_n 1, 1) := by decide +kernel
theorem dX9_put_19 : decode cX9_put 19 = .ok (.iaload, 1) := by decide +kernel
theorem dX9_put_20 : decode cX9_put 20 = .ok (.ifCond .ne 11, 3) := by decide +kernel
theorem dX9_put_23 : decode cX9_put 23 = .ok (.aload_n 0, 1) := by decide +kernel
theorem dX9_put_24 : decode cX9_put 24 = .ok (.ldc_w 268, 3) := by decide +kernel
theorem dX9_put_27 : decode cX9_put 27 = .ok (.invokevirtual 81, 3) := by decide +kernel
theorem dX9_put_30 : decode cX9_put 30 = .ok (.ireturn, 1) := by decide +kernel
theorem dX9_put_31 : decode cX9_put 31 = .ok (.iload_n 2, 1) := by decide +kernel
theorem dX9_put_32 : decode cX9_put 32 = .ok (.iconst 0, 1) := by decide +kernel
theorem dX9_put_33 : decode cX9_put 33 = .ok (.aload_n 0, 1) := by decide +kernel
theorem dX9_put_34 : decode cX9_put 34 = .ok (.getfield 53, 3) := by decide +kernel
theorem dX9_put_37 : decode cX9_put 37 = .ok (.iload_n 1, 1) := by decide +kernel
theorem dX9_put_38 : decode cX9_put 38 = .ok (.iaload, 1) := by decide +kernel
theorem dX9_put_39 : decode cX9_put 39 = .ok (.iconst 1, 1) := by decide +kernel
theorem dX9_put_40 : decode cX9_put 40 = .ok (.isub, 1) := by decide +kernel
theorem dX9_put_41 : decode cX9_put 41 = .ok (.invokestatic 76, 3) := by decide +kernel
theorem dX9_put_44 : decode cX9_put 44 = .ok (.ifCond .ne 10, 3) := by decide +kernel
theorem dX9_put_47 : decode cX9_put 47 = .ok (.aload_n 0, 1) := by decide +kernel
theorem dX9_put_48 : decode cX9_put 48 = .ok (.ldc 80, 2) := by decide +kernel
theorem dX9_put_50 : decode cX9_put 50 = .ok (.invokevirtual 81, 3) := by decide +kernel
theorem dX9_put_53 : decode cX9_put 53 = .ok (.ireturn, 1) := by decide +kernel
theorem dX9_put_54 : decode cX9_put 54 = .ok (.aload_n 0, 1) := by decide +kernel
theorem dX9_put_55 : decode cX9_put 55 = .ok (.getfield 56, 3) := by decide +kernel
theorem dX9_put_58 : decode cX9_put 58 = .ok (.bipush 40, 2) := by decide +kernel
theorem dX9_put_60 : decode cX9_put 60 = .ok (.iload_n 1, 1) := by decide +kernel
theorem dX9_put_61 : decode cX9_put 61 = .ok (.imul, 1) := by decide +kernel
theorem dX9_put_62 : decode cX9_put 62 = .ok (.iload_n 2, 1) := by decide +kernel
theorem dX9_put_63 : decode cX9_put 63 = .ok (.iadd, 1) := by decide +kernel
theorem dX9_put_64 : decode cX9_put 64 = .ok (.aload_n 0, 1) := by decide +kernel
theorem dX9_put_65 : decode cX9_put 65 = .ok (.getfield 50, 3) := by decide +kernel
theorem dX9_put_68 : decode cX9_put 68 = .ok (.iload_n 1, 1) := by decide +kernel
theorem dX9_put_69 : decode cX9_put 69 = .ok (.iaload, 1) := by decide +kernel
theorem dX9_put_70 : decode cX9_put 70 = .ok (.bipush 8, 2) := by decide +kernel
theorem dX9_put_72 : decode cX9_put 72 = .ok (.if_icmp .ne 8, 3) := by decide +kernel
theorem dX9_put_75 : decode cX9_put 75 = .ok (.iload_n 3, 1) := by decide +kernel
theorem dX9_put_76 : decode cX9_put 76 = .ok (.i2b, 1) := by decide +kernel
theorem dX9_put_77 : decode cX9_put 77 = .ok (.goto 20, 3) := by decide +kernel
theorem dX9_put_80 : decode cX9_put 80 = .ok (.aload_n 0, 1) := by decide +kernel
theorem dX9_put_81 : decode cX9_put 81 = .ok (.getfield 50, 3) := by decide +kernel
theorem dX9_put_84 : decode cX9_put 84 = .ok (.iload_n 1, 1) := by decide +kernel
theorem dX9_put_85 : decode cX9_put 85 = .ok (.iaload, 1) := by decide +kernel
theorem dX9_put_86 : decode cX9_put 86 = .ok (.bipush 16, 2) := by decide +kernel
theorem dX9_put_88 : decode cX9_put 88 = .ok (.if_icmp .ne 8, 3) := by decide +kernel
theorem dX9_put_91 : decode cX9_put 91 = .ok (.iload_n 3, 1) := by decide +kernel
theorem dX9_put_92 : decode cX9_put 92 = .ok (.i2s, 1) := by decide +kernel
theorem dX9_put_93 : decode cX9_put 93 = .ok (.goto 4, 3) := by decide +kernel
theorem dX9_put_96 : decode cX9_put 96 = .ok (.iload_n 3, 1) := by decide +kernel
theorem dX9_put_97 : decode cX9_put 97 = .ok (.iastore, 1) := by decide +kernel
theorem dX9_put_98 : decode cX9_put 98 = .ok (.iconst 1, 1) := by decide +kernel
theorem dX9_put_99 : decode cX9_put 99 = .ok (.ireturn, 1) := by decide +kernel
theorem dX9_move_0 : decode cX9_move 0 = .ok (.iload_n 1, 1) := by decide +kernel
theorem dX9_move_1 : decode cX9_move 1 = .ok (.invokestatic 287, 3) := by decide +kernel
theorem dX9_move_4 : decode cX9_move 4 = .ok (.ifCond .eq 10, 3) := by decide +kernel
theorem dX9_move_7 : decode cX9_move 7 = .ok (.iload_n 3, 1) := by decide +kernel
theorem dX9_move_8 : decode cX9_move 8 = .ok (.invokestatic 287, 3) := by decide +kernel
theorem dX9_move_11 : decode cX9_move 11 = .ok (.ifCond .ne 10, 3) := by decide +kernel
theorem dX9_move_14 : decode cX9_move 14 = .ok (.aload_n 0, 1) := by decide +kernel
theorem dX9_move_15 : decode cX9_move 15 = .ok (.ldc 80, 2) := by decide +kernel
theorem dX9_move_17 : decode cX9_move 17 = .ok (.invokevirtual 81, 3) := by decide +kernel
theorem dX9_move_20 : decode cX9_move 20 = .ok (.ireturn, 1) := by decide +kernel
theorem dX9_move_21 : decode cX9_move 21 = .ok (.aload_n 0, 1) := by decide +kernel
theorem dX9_move_22 : decode cX9_move 22 = .ok (.getfield 50, 3) := by decide +kernel
theorem dX9_move_25 : decode cX9_move 25 = .ok (.iload_n 1, 1) := by decide +kernel
theorem dX9_move_26 : decode cX9_move 26 = .ok (.iaload, 1) := by decide +kernel
theorem dX9_move_27 : decode cX9_move 27 = .ok (.ifCond .eq 12, 3) := by decide +kernel
theorem dX9_move_30 : decode cX9_move 30 = .ok (.aload_n 0, 1) := by decide +kernel
theorem dX9_move_31 : decode cX9_move 31 = .ok (.getfield 50, 3) := by decide +kernel
theorem dX9_move_34 : decode cX9_move 34 = .ok (.iload_n 3, 1) := by decide +kernel
theorem dX9_move_35 : decode cX9_move 35 = .ok (.iaload, 1) := by decide +kernel
theorem dX9_move_36 : decode cX9_move 36 = .ok (.ifCond .ne 11, 3) := by decide +kernel
theorem dX9_move_39 : decode cX9_move 39 = .ok (.aload_n 0, 1) := by decide +kernel
theorem dX9_move_40 : decode cX9_move 40 = .ok (.ldc_w 268, 3) := by decide +kernel
theorem dX9_move_43 : decode cX9_move 43 = .ok (.invokevirtual 81, 3) := by decide +kernel
theorem dX9_move_46 : decode cX9_move 46 = .ok (.ireturn, 1) := by decide +kernel
theorem dX9_move_47 : decode cX9_move 47 = .ok (.aload_n 0, 1) := by decide +kernel
theorem dX9_move_48 : decode cX9_move 48 = .ok (.getfield 50, 3) := by decide +kernel
theorem dX9_move_51 : decode cX9_move 51 = .ok (.iload_n 1, 1) := by decide +kernel
theorem dX9_move_52 : decode cX9_move 52 = .ok (.iaload, 1) := by decide +kernel
theorem dX9_move_53 : decode cX9_move 53 = .ok (.aload_n 0, 1) := by decide +kernel
theorem dX9_move_54 : decode cX9_move 54 = .ok (.getfield 50, 3) := by decide +kernel
theorem dX9_move_57 : decode cX9_move 57 = .ok (.iload_n 3, 1) := by decide +kernel
theorem dX9_move_58 : decode cX9_move 58 = .ok (.iaload, 1) := by decide +kernel
theorem dX9_move_59 : decode cX9_move 59 = .ok (.if_icmp .eq 10, 3) := by decide +kernel
theorem dX9_move_62 : decode cX9_move 62 = .ok (.aload_n 0, 1) := by decide +kernel
theorem dX9_move_63 : decode cX9_move 63 = .ok (.ldc 234, 2) := by decide +kernel
theorem dX9_move_65 : decode cX9_move 65 = .ok (.invokevirtual 81, 3) := by decide +kernel
theorem dX9_move_68 : decode cX9_move 68 = .ok (.ireturn, 1) := by decide +kernel
theorem dX9_move_69 : decode cX9_move 69 = .ok (.iload 5, 2) := by decide +kernel
theorem dX9_move_71 : decode cX9_move 71 = .ok (.ifCond .lt 47, 3) := by decide +kernel
theorem dX9_move_74 : decode cX9_move 74 = .ok (.iload_n 2, 1) := by decide +kernel
theorem dX9_move_75 : decode cX9_move 75 = .ok (.ifCond .lt 43, 3) := by decide +kernel
theorem dX9_move_78 : decode cX9_move 78 = .ok (.iload 4, 2) := by decide +kernel
theorem dX9_move_80 : decode cX9_move 80 = .ok (.ifCond .lt 38, 3) := by decide +kernel
theorem dX9_move_83 : decode cX9_move 83 = .ok (.iload_n 2, 1) := by decide +kernel
theorem dX9_move_84 : decode cX9_move 84 = .ok (.i2l, 1) := by decide +kernel
theorem dX9_move_85 : decode cX9_move 85 = .ok (.iload 5, 2) := by decide +kernel
theorem dX9_move_87 : decode cX9_move 87 = .ok (.i2l, 1) := by decide +kernel
theorem dX9_move_88 : decode cX9_move 88 = .ok (.ladd, 1) := by decide +kernel
theorem dX9_move_89 : decode cX9_move 89 = .ok (.aload_n 0, 1) := by decide +kernel
theorem dX9_move_90 : decode cX9_move 90 = .ok (.getfield 53, 3) := by decide +kernel
theorem dX9_move_93 : decode cX9_move 93 = .ok (.iload_n 1, 1) := by decide +kernel
theorem dX9_move_94 : decode cX9_move 94 = .ok (.iaload, 1) := by decide +kernel
theorem dX9_move_95 : decode cX9_move 95 = .ok (.i2l, 1) := by decide +kernel
theorem dX9_move_96 : decode cX9_move 96 = .ok (.lcmp, 1) := by decide +kernel
theorem dX9_move_97 : decode cX9_move 97 = .ok (.ifCond .gt 21, 3) := by decide +kernel
theorem dX9_move_100 : decode cX9_move 100 = .ok (.iload 4, 2) := by decide +kernel
theorem dX9_move_102 : decode cX9_move 102 = .ok (.i2l, 1) := by decide +kernel
theorem dX9_move_103 : decode cX9_move 103 = .ok (.iload 5, 2) := by decide +kernel
theorem dX9_move_105 : decode cX9_move 105 = .ok (.i2l, 1) := by decide +kernel
theorem dX9_move_106 : decode cX9_move 106 = .ok (.ladd, 1) := by decide +kernel
theorem dX9_move_107 : decode cX9_move 107 = .ok (.aload_n 0, 1) := by decide +kernel
theorem dX9_move_108 : decode cX9_move 108 = .ok (.getfield 53, 3) := by decide +kernel
theorem dX9_move_111 : decode cX9_move 111 = .ok (.iload_n 3, 1) := by decide +kernel
theorem dX9_move_112 : decode cX9_move 112 = .ok (.iaload, 1) := by decide +kernel
theorem dX9_move_113 : decode cX9_move 113 = .ok (.i2l, 1) := by decide +kernel
theorem dX9_move_114 : decode cX9_move 114 = .ok (.lcmp, 1) := by decide +kernel
theorem dX9_move_115 : decode cX9_move 115 = .ok (.ifCond .le 10, 3) := by decide +kernel
theorem dX9_move_118 : decode cX9_move 118 = .ok (.aload_n 0, 1) := by decide +kernel
theorem dX9_move_119 : decode cX9_move 119 = .ok (.ldc 80, 2) := by decide +kernel
theorem dX9_move_121 : decode cX9_move 121 = .ok (.invokevirtual 81, 3) := by decide +kernel
theorem dX9_move_124 : decode cX9_move 124 = .ok (.ireturn, 1) := by decide +kernel
theorem dX9_move_125 : decode cX9_move 125 = .ok (.iconst 0, 1) := by decide +kernel
theorem dX9_move_126 : decode cX9_move 126 = .ok (.istore 6, 2) := by decide +kernel
theorem dX9_move_128 : decode cX9_move 128 = .ok (.iload 6, 2) := by decide +kernel
theorem dX9_move_130 : decode cX9_move 130 = .ok (.iload 5, 2) := by decide +kernel
theorem dX9_move_132 : decode cX9_move 132 = .ok (.if_icmp .ge 30, 3) := by decide +kernel
theorem dX9_move_135 : decode cX9_move 135 = .ok (.aload_n 0, 1) := by decide +kernel
theorem dX9_move_136 : decode cX9_move 136 = .ok (.getfield 59, 3) := by decide +kernel
theorem dX9_move_139 : decode cX9_move 139 = .ok (.iload 6, 2) := by decide +kernel
theorem dX9_move_141 : decode cX9_move 141 = .ok (.aload_n 0, 1) := by decide +kernel
theorem dX9_move_142 : decode cX9_move 142 = .ok (.getfield 56, 3) := by decide +kernel
theorem dX9_move_145 : decode cX9_move 145 = .ok (.bipush 40, 2) := by decide +kernel
theorem dX9_move_147 : decode cX9_move 147 = .ok (.iload_n 1, 1) := by decide +kernel
theorem dX9_move_148 : decode cX9_move 148 = .ok (.imul, 1) := by decide +kernel
theorem dX9_move_149 : decode cX9_move 149 = .ok (.iload_n 2, 1) := by decide +kernel
theorem dX9_move_150 : decode cX9_move 150 = .ok (.iadd, 1) := by decide +kernel
theorem dX9_move_151 : decode cX9_move 151 = .ok (.iload 6, 2) := by decide +kernel
theorem dX9_move_153 : decode cX9_move 153 = .ok (.iadd, 1) := by decide +kernel
theorem dX9_move_154 : decode cX9_move 154 = .ok (.iaload, 1) := by decide +kernel
theorem dX9_move_155 : decode cX9_move 155 = .ok (.iastore, 1) := by decide +kernel
theorem dX9_move_156 : decode cX9_move 156 = .ok (.iinc 6 1, 3) := by decide +kernel
theorem dX9_move_159 : decode cX9_move 159 = .ok (.goto (-31), 3) := by decide +kernel
theorem dX9_move_162 : decode cX9_move 162 = .ok (.iconst 0, 1) := by decide +kernel
theorem dX9_move_163 : decode cX9_move 163 = .ok (.istore 6, 2) := by decide +kernel
theorem dX9_move_165 : decode cX9_move 165 = .ok (.iload 6, 2) := by decide +kernel
theorem dX9_move_167 : decode cX9_move 167 = .ok (.iload 5, 2) := by decide +kernel
theorem dX9_move_169 : decode cX9_move 169 = .ok (.if_icmp .ge 31, 3) := by decide +kernel
theorem dX9_move_172 : decode cX9_move 172 = .ok (.aload_n 0, 1) := by decide +kernel
theorem dX9_move_173 : decode cX9_move 173 = .ok (.getfield 56, 3) := by decide +kernel
theorem dX9_move_176 : decode cX9_move 176 = .ok (.bipush 40, 2) := by decide +kernel
theorem dX9_move_178 : decode cX9_move 178 = .ok (.iload_n 3, 1) := by decide +kernel
theorem dX9_move_179 : decode cX9_move 179 = .ok (.imul, 1) := by decide +kernel
theorem dX9_move_180 : decode cX9_move 180 = .ok (.iload 4, 2) := by decide +kernel
theorem dX9_move_182 : decode cX9_move 182 = .ok (.iadd, 1) := by decide +kernel
theorem dX9_move_183 : decode cX9_move 183 = .ok (.iload 6, 2) := by decide +kernel
theorem dX9_move_185 : decode cX9_move 185 = .ok (.iadd, 1) := by decide +kernel
theorem dX9_move_186 : decode cX9_move 186 = .ok (.aload_n 0, 1) := by decide +kernel
theorem dX9_move_187 : decode cX9_move 187 = .ok (.getfield 59, 3) := by decide +kernel
theorem dX9_move_190 : decode cX9_move 190 = .ok (.iload 6, 2) := by decide +kernel
theorem dX9_move_192 : decode cX9_move 192 = .ok (.iaload, 1) := by decide +kernel
theorem dX9_move_193 : decode cX9_move 193 = .ok (.iastore, 1) := by decide +kernel
theorem dX9_move_194 : decode cX9_move 194 = .ok (.iinc 6 1, 3) := by decide +kernel
theorem dX9_move_197 : decode cX9_move 197 = .ok (.goto (-32), 3) := by decide +kernel
theorem dX9_move_200 : decode cX9_move 200 = .ok (.iload 5, 2) := by decide +kernel
theorem dX9_move_202 : decode cX9_move 202 = .ok (.ireturn, 1) := by decide +kernel
theorem dX9_leases_0 : decode cX9_leases 0 = .ok (.iload_n 1, 1) := by decide +kernel
theorem dX9_leases_1 : decode cX9_leases 1 = .ok (.invokestatic 287, 3) := by decide +kernel
theorem dX9_leases_4 : decode cX9_leases 4 = .ok (.ifCond .ne 10, 3) := by decide +kernel
theorem dX9_leases_7 : decode cX9_leases 7 = .ok (.aload_n 0, 1) := by decide +kernel
theorem dX9_leases_8 : decode cX9_leases 8 = .ok (.ldc 80, 2) := by decide +kernel
theorem dX9_leases_10 : decode cX9_leases 10 = .ok (.invokevirtual 81, 3) := by decide +kernel
theorem dX9_leases_13 : decode cX9_leases 13 = .ok (.ireturn, 1) := by decide +kernel
theorem dX9_leases_14 : decode cX9_leases 14 = .ok (.aload_n 0, 1) := by decide +kernel
theorem dX9_leases_15 : decode cX9_leases 15 = .ok (.getfield 50, 3) := by decide +kernel
theorem dX9_leases_18 : decode cX9_leases 18 = .ok (.iload_n 1, 1) := by decide +kernel
theorem dX9_leases_19 : decode cX9_leases 19 = .ok (.iaload, 1) := by decide +kernel
theorem dX9_leases_20 : decode cX9_leases 20 = .ok (.ifCond .ne 11, 3) := by decide +kernel
theorem dX9_leases_23 : decode cX9_leases 23 = .ok (.aload_n 0, 1) := by decide +kernel
theorem dX9_leases_24 : decode cX9_leases 24 = .ok (.ldc_w 268, 3) := by decide +kernel
theorem dX9_leases_27 : decode cX9_leases 27 = .ok (.invokevirtual 81, 3) := by decide +kernel
theorem dX9_leases_30 : decode cX9_leases 30 = .ok (.ireturn, 1) := by decide +kernel
theorem dX9_leases_31 : decode cX9_leases 31 = .ok (.iconst 0, 1) := by decide +kernel
theorem dX9_leases_32 : decode cX9_leases 32 = .ok (.istore_n 2, 1) := by decide +kernel
theorem dX9_leases_33 : decode cX9_leases 33 = .ok (.iload_n 2, 1) := by decide +kernel
theorem dX9_leases_34 : decode cX9_leases 34 = .ok (.aload_n 0, 1) := by decide +kernel
theorem dX9_leases_35 : decode cX9_leases 35 = .ok (.getfield 53, 3) := by decide +kernel
theorem dX9_leases_38 : decode cX9_leases 38 = .ok (.iload_n 1, 1) := by decide +kernel
theorem dX9_leases_39 : decode cX9_leases 39 = .ok (.iaload, 1) := by decide +kernel
theorem dX9_leases_40 : decode cX9_leases 40 = .ok (.if_icmp .ge 63, 3) := by decide +kernel
theorem dX9_leases_43 : decode cX9_leases 43 = .ok (.aload_n 0, 1) := by decide +kernel
theorem dX9_leases_44 : decode cX9_leases 44 = .ok (.iload_n 2, 1) := by decide +kernel
theorem dX9_leases_45 : decode cX9_leases 45 = .ok (.invokevirtual 227, 3) := by decide +kernel
theorem dX9_leases_48 : decode cX9_leases 48 = .ok (.ifCond .eq 55, 3) := by decide +kernel
theorem dX9_leases_51 : decode cX9_leases 51 = .ok (.aload_n 0, 1) := by decide +kernel
theorem dX9_leases_52 : decode cX9_leases 52 = .ok (.iload_n 2, 1) := by decide +kernel
theorem dX9_leases_53 : decode cX9_leases 53 = .ok (.invokevirtual 239, 3) := by decide +kernel
theorem dX9_leases_56 : decode cX9_leases 56 = .ok (.ifCond .ne 47, 3) := by decide +kernel
theorem dX9_leases_59 : decode cX9_leases 59 = .ok (.aload_n 0, 1) := by decide +kernel
theorem dX9_leases_60 : decode cX9_leases 60 = .ok (.getfield 56, 3) := by decide +kernel
theorem dX9_leases_63 : decode cX9_leases 63 = .ok (.bipush 40, 2) := by decide +kernel
theorem dX9_leases_65 : decode cX9_leases 65 = .ok (.iload_n 1, 1) := by decide +kernel
theorem dX9_leases_66 : decode cX9_leases 66 = .ok (.imul, 1) := by decide +kernel
theorem dX9_leases_67 : decode cX9_leases 67 = .ok (.iload_n 2, 1) := by decide +kernel
theorem dX9_leases_68 : decode cX9_leases 68 = .ok (.iadd, 1) := by decide +kernel
theorem dX9_leases_69 : decode cX9_leases 69 = .ok (.iaload, 1) := by decide +kernel
theorem dX9_leases_70 : decode cX9_leases 70 = .ok (.invokestatic 236, 3) := by decide +kernel
theorem dX9_leases_73 : decode cX9_leases 73 = .ok (.ifCond .eq 30, 3) := by decide +kernel
theorem dX9_leases_76 : decode cX9_leases 76 = .ok (.aload_n 0, 1) := by decide +kernel
theorem dX9_leases_77 : decode cX9_leases 77 = .ok (.getfield 9, 3) := by decide +kernel
theorem dX9_leases_80 : decode cX9_leases 80 = .ok (.iload_n 2, 1) := by decide +kernel
theorem dX9_leases_81 : decode cX9_leases 81 = .ok (.iconst 2, 1) := by decide +kernel
theorem dX9_leases_82 : decode cX9_leases 82 = .ok (.invokestatic 204, 3) := by decide +kernel
theorem dX9_leases_85 : decode cX9_leases 85 = .ok (.aload_n 0, 1) := by decide +kernel
theorem dX9_leases_86 : decode cX9_leases 86 = .ok (.getfield 56, 3) := by decide +kernel
theorem dX9_leases_89 : decode cX9_leases 89 = .ok (.bipush 40, 2) := by decide +kernel
theorem dX9_leases_91 : decode cX9_leases 91 = .ok (.iload_n 1, 1) := by decide +kernel
theorem dX9_leases_92 : decode cX9_leases 92 = .ok (.imul, 1) := by decide +kernel
theorem dX9_leases_93 : decode cX9_leases 93 = .ok (.iload_n 2, 1) := by decide +kernel
theorem dX9_leases_94 : decode cX9_leases 94 = .ok (.iadd, 1) := by decide +kernel
theorem dX9_leases_95 : decode cX9_leases 95 = .ok (.iaload, 1) := by decide +kernel
theorem dX9_leases_96 : decode cX9_leases 96 = .ok (.iastore, 1) := by decide +kernel
theorem dX9_leases_97 : decode cX9_leases 97 = .ok (.iinc 2 1, 3) := by decide +kernel
theorem dX9_leases_100 : decode cX9_leases 100 = .ok (.goto (-67), 3) := by decide +kernel
theorem dX9_leases_103 : decode cX9_leases 103 = .ok (.iload_n 2, 1) := by decide +kernel
theorem dX9_leases_104 : decode cX9_leases 104 = .ok (.ireturn, 1) := by decide +kernel
theorem dX9_judge_0 : decode cX9_judge 0 = .ok (.iload_n 1, 1) := by decide +kernel
theorem dX9_judge_1 : decode cX9_judge 1 = .ok (.invokestatic 287, 3) := by decide +kernel
theorem dX9_judge_4 : decode cX9_judge 4 = .ok (.ifCond .ne 10, 3) := by decide +kernel
theorem dX9_judge_7 : decode cX9_judge 7 = .ok (.aload_n 0, 1) := by decide +kernel
theorem dX9_judge_8 : decode cX9_judge 8 = .ok (.ldc 80, 2) := by decide +kernel
theorem dX9_judge_10 : decode cX9_judge 10 = .ok (.invokevirtual 81, 3) := by decide +kernel
theorem dX9_judge_13 : decode cX9_judge 13 = .ok (.ireturn, 1) := by decide +kernel
theorem dX9_judge_14 : decode cX9_judge 14 = .ok (.aload_n 0, 1) := by decide +kernel
theorem dX9_judge_15 : decode cX9_judge 15 = .ok (.getfield 50, 3) := by decide +kernel
theorem dX9_judge_18 : decode cX9_judge 18 = .ok (.iload_n 1, 1) := by decide +kernel
theorem dX9_judge_19 : decode cX9_judge 19 = .ok (.iaload, 1) := by decide +kernel
theorem dX9_judge_20 : decode cX9_judge 20 = .ok (.ifCond .ne 11, 3) := by decide +kernel
theorem dX9_judge_23 : decode cX9_judge 23 = .ok (.aload_n 0, 1) := by decide +kernel
theorem dX9_judge_24 : decode cX9_judge 24 = .ok (.ldc_w 268, 3) := by decide +kernel
theorem dX9_judge_27 : decode cX9_judge 27 = .ok (.invokevirtual 81, 3) := by decide +kernel
theorem dX9_judge_30 : decode cX9_judge 30 = .ok (.ireturn, 1) := by decide +kernel
theorem dX9_judge_31 : decode cX9_judge 31 = .ok (.iconst 0, 1) := by decide +kernel
theorem dX9_judge_32 : decode cX9_judge 32 = .ok (.istore_n 2, 1) := by decide +kernel
theorem dX9_judge_33 : decode cX9_judge 33 = .ok (.iload_n 2, 1) := by decide +kernel
theorem dX9_judge_34 : decode cX9_judge 34 = .ok (.aload_n 0, 1) := by decide +kernel
theorem dX9_judge_35 : decode cX9_judge 35 = .ok (.getfield 53, 3) := by decide +kernel
theorem dX9_judge_38 : decode cX9_judge 38 = .ok (.iload_n 1, 1) := by decide +kernel
theorem dX9_judge_39 : decode cX9_judge 39 = .ok (.iaload, 1) := by decide +kernel
theorem dX9_judge_40 : decode cX9_judge 40 = .ok (.if_icmp .ge 37, 3) := by decide +kernel
theorem dX9_judge_43 : decode cX9_judge 43 = .ok (.aload_n 0, 1) := by decide +kernel
theorem dX9_judge_44 : decode cX9_judge 44 = .ok (.iload_n 2, 1) := by decide +kernel
theorem dX9_judge_45 : decode cX9_judge 45 = .ok (.invokevirtual 227, 3) := by decide +kernel
theorem dX9_judge_48 : decode cX9_judge 48 = .ok (.ifCond .eq 29, 3) := by decide +kernel
theorem dX9_judge_51 : decode cX9_judge 51 = .ok (.aload_n 0, 1) := by decide +kernel
theorem dX9_judge_52 : decode cX9_judge 52 = .ok (.getfield 56, 3) := by decide +kernel
theorem dX9_judge_55 : decode cX9_judge 55 = .ok (.bipush 40, 2) := by decide +kernel
theorem dX9_judge_57 : decode cX9_judge 57 = .ok (.iload_n 1, 1) := by decide +kernel
theorem dX9_judge_58 : decode cX9_judge 58 = .ok (.imul, 1) := by decide +kernel
theorem dX9_judge_59 : decode cX9_judge 59 = .ok (.iload_n 2, 1) := by decide +kernel
theorem dX9_judge_60 : decode cX9_judge 60 = .ok (.iadd, 1) := by decide +kernel
theorem dX9_judge_61 : decode cX9_judge 61 = .ok (.iaload, 1) := by decide +kernel
theorem dX9_judge_62 : decode cX9_judge 62 = .ok (.aload_n 0, 1) := by decide +kernel
theorem dX9_judge_63 : decode cX9_judge 63 = .ok (.iload_n 2, 1) := by decide +kernel
theorem dX9_judge_64 : decode cX9_judge 64 = .ok (.iconst 3, 1) := by decide +kernel
theorem dX9_judge_65 : decode cX9_judge 65 = .ok (.invokevirtual 179, 3) := by decide +kernel
theorem dX9_judge_68 : decode cX9_judge 68 = .ok (.if_icmp .ne 9, 3) := by decide +kernel
theorem dX9_judge_71 : decode cX9_judge 71 = .ok (.iinc 2 1, 3) := by decide +kernel
theorem dX9_judge_74 : decode cX9_judge 74 = .ok (.goto (-41), 3) := by decide +kernel
theorem dX9_judge_77 : decode cX9_judge 77 = .ok (.iload_n 2, 1) := by decide +kernel
theorem dX9_judge_78 : decode cX9_judge 78 = .ok (.aload_n 0, 1) := by decide +kernel
theorem dX9_judge_79 : decode cX9_judge 79 = .ok (.getfield 53, 3) := by decide +kernel
theorem dX9_judge_82 : decode cX9_judge 82 = .ok (.iload_n 1, 1) := by decide +kernel
theorem dX9_judge_83 : decode cX9_judge 83 = .ok (.iaload, 1) := by decide +kernel
theorem dX9_judge_84 : decode cX9_judge 84 = .ok (.if_icmp .ne 17, 3) := by decide +kernel
theorem dX9_judge_87 : decode cX9_judge 87 = .ok (.iload_n 2, 1) := by decide +kernel
theorem dX9_judge_88 : decode cX9_judge 88 = .ok (.aload_n 0, 1) := by decide +kernel
theorem dX9_judge_89 : decode cX9_judge 89 = .ok (.getfield 9, 3) := by decide +kernel
theorem dX9_judge_92 : decode cX9_judge 92 = .ok (.iconst 1, 1) := by decide +kernel
theorem dX9_judge_93 : decode cX9_judge 93 = .ok (.iaload, 1) := by decide +kernel
theorem dX9_judge_94 : decode cX9_judge 94 = .ok (.if_icmp .ne 7, 3) := by decide +kernel
theorem dX9_judge_97 : decode cX9_judge 97 = .ok (.iconst (-1), 1) := by decide +kernel
theorem dX9_judge_98 : decode cX9_judge 98 = .ok (.goto 4, 3) := by decide +kernel
theorem dX9_judge_101 : decode cX9_judge 101 = .ok (.iload_n 2, 1) := by decide +kernel
theorem dX9_judge_102 : decode cX9_judge 102 = .ok (.ireturn, 1) := by decide +kernel
theorem dX9_image_0 : decode cX9_image 0 = .ok (.aload_n 0, 1) := by decide +kernel
theorem dX9_image_1 : decode cX9_image 1 = .ok (.getfield 9, 3) := by decide +kernel
theorem dX9_image_4 : decode cX9_image 4 = .ok (.aload_n 0, 1) := by decide +kernel
theorem dX9_image_5 : decode cX9_image 5 = .ok (.getfield 13, 3) := by decide +kernel
theorem dX9_image_8 : decode cX9_image 8 = .ok (.invokestatic 72, 3) := by decide +kernel
theorem dX9_image_11 : decode cX9_image 11 = .ok (.aload_n 0, 1) := by decide +kernel
theorem dX9_image_12 : decode cX9_image 12 = .ok (.dup, 1) := by decide +kernel
theorem dX9_image_13 : decode cX9_image 13 = .ok (.getfield 326, 3) := by decide +kernel
theorem dX9_image_16 : decode cX9_image 16 = .ok (.iconst 1, 1) := by decide +kernel
theorem dX9_image_17 : decode cX9_image 17 = .ok (.iadd, 1) := by decide +kernel
theorem dX9_image_18 : decode cX9_image 18 = .ok (.putfield 326, 3) := by decide +kernel
theorem dX9_image_21 : decode cX9_image 21 = .ok (.aload_n 0, 1) := by decide +kernel
theorem dX9_image_22 : decode cX9_image 22 = .ok (.getfield 326, 3) := by decide +kernel
theorem dX9_image_25 : decode cX9_image 25 = .ok (.ireturn, 1) := by decide +kernel
theorem dX9_restore_0 : decode cX9_restore 0 = .ok (.aload_n 0, 1) := by decide +kernel
theorem dX9_restore_1 : decode cX9_restore 1 = .ok (.getfield 326, 3) := by decide +kernel
theorem dX9_restore_4 : decode cX9_restore 4 = .ok (.ifCond .ne 11, 3) := by decide +kernel
theorem dX9_restore_7 : decode cX9_restore 7 = .ok (.aload_n 0, 1) := by decide +kernel
theorem dX9_restore_8 : decode cX9_restore 8 = .ok (.ldc_w 268, 3) := by decide +kernel
theorem dX9_restore_11 : decode cX9_restore 11 = .ok (.invokevirtual 81, 3) := by decide +kernel
theorem dX9_restore_14 : decode cX9_restore 14 = .ok (.ireturn, 1) := by decide +kernel
theorem dX9_restore_15 : decode cX9_restore 15 = .ok (.aload_n 0, 1) := by decide +kernel
theorem dX9_restore_16 : decode cX9_restore 16 = .ok (.getfield 13, 3) := by decide +kernel
theorem dX9_restore_19 : decode cX9_restore 19 = .ok (.aload_n 0, 1) := by decide +kernel
theorem dX9_restore_20 : decode cX9_restore 20 = .ok (.getfield 9, 3) := by decide +kernel
theorem dX9_restore_23 : decode cX9_restore 23 = .ok (.invokestatic 72, 3) := by decide +kernel
theorem dX9_restore_26 : decode cX9_restore 26 = .ok (.aload_n 0, 1) := by decide +kernel
theorem dX9_restore_27 : decode cX9_restore 27 = .ok (.getfield 9, 3) := by decide +kernel
theorem dX9_restore_30 : decode cX9_restore 30 = .ok (.iconst 0, 1) := by decide +kernel
theorem dX9_restore_31 : decode cX9_restore 31 = .ok (.iaload, 1) := by decide +kernel
theorem dX9_restore_32 : decode cX9_restore 32 = .ok (.ireturn, 1) := by decide +kernel
theorem dX9_tell_0 : decode cX9_tell 0 = .ok (.aload_n 0, 1) := by decide +kernel
theorem dX9_tell_1 : decode cX9_tell 1 = .ok (.getfield 9, 3) := by decide +kernel
theorem dX9_tell_4 : decode cX9_tell 4 = .ok (.iconst 4, 1) := by decide +kernel
theorem dX9_tell_5 : decode cX9_tell 5 = .ok (.iaload, 1) := by decide +kernel
theorem dX9_tell_6 : decode cX9_tell 6 = .ok (.bipush 20, 2) := by decide +kernel
theorem dX9_tell_8 : decode cX9_tell 8 = .ok (.if_icmp .ne 10, 3) := by decide +kernel
theorem dX9_tell_11 : decode cX9_tell 11 = .ok (.aload_n 0, 1) := by decide +kernel
theorem dX9_tell_12 : decode cX9_tell 12 = .ok (.ldc 85, 2) := by decide +kernel
theorem dX9_tell_14 : decode cX9_tell 14 = .ok (.invokevirtual 81, 3) := by decide +kernel
theorem dX9_tell_17 : decode cX9_tell 17 = .ok (.ireturn, 1) := by decide +kernel
theorem dX9_tell_18 : decode cX9_tell 18 = .ok (.aload_n 0, 1) := by decide +kernel
theorem dX9_tell_19 : decode cX9_tell 19 = .ok (.getfield 9, 3) := by decide +kernel
theorem dX9_tell_22 : decode cX9_tell 22 = .ok (.bipush 86, 2) := by decide +kernel
theorem dX9_tell_24 : decode cX9_tell 24 = .ok (.aload_n 0, 1) := by decide +kernel
theorem dX9_tell_25 : decode cX9_tell 25 = .ok (.getfield 9, 3) := by decide +kernel
theorem dX9_tell_28 : decode cX9_tell 28 = .ok (.iconst 4, 1) := by decide +kernel
theorem dX9_tell_29 : decode cX9_tell 29 = .ok (.iaload, 1) := by decide +kernel
theorem dX9_tell_30 : decode cX9_tell 30 = .ok (.iadd, 1) := by decide +kernel
theorem dX9_tell_31 : decode cX9_tell 31 = .ok (.iload_n 1, 1) := by decide +kernel
theorem dX9_tell_32 : decode cX9_tell 32 = .ok (.iastore, 1) := by decide +kernel
theorem dX9_tell_33 : decode cX9_tell 33 = .ok (.aload_n 0, 1) := by decide +kernel
theorem dX9_tell_34 : decode cX9_tell 34 = .ok (.getfield 9, 3) := by decide +kernel
theorem dX9_tell_37 : decode cX9_tell 37 = .ok (.iconst 4, 1) := by decide +kernel
theorem dX9_tell_38 : decode cX9_tell 38 = .ok (.dup2, 1) := by decide +kernel
theorem dX9_tell_39 : decode cX9_tell 39 = .ok (.iaload, 1) := by decide +kernel
theorem dX9_tell_40 : decode cX9_tell 40 = .ok (.iconst 1, 1) := by decide +kernel
theorem dX9_tell_41 : decode cX9_tell 41 = .ok (.iadd, 1) := by decide +kernel
theorem dX9_tell_42 : decode cX9_tell 42 = .ok (.iastore, 1) := by decide +kernel
theorem dX9_tell_43 : decode cX9_tell 43 = .ok (.aload_n 0, 1) := by decide +kernel
theorem dX9_tell_44 : decode cX9_tell 44 = .ok (.getfield 9, 3) := by decide +kernel
theorem dX9_tell_47 : decode cX9_tell 47 = .ok (.iconst 4, 1) := by decide +kernel
theorem dX9_tell_48 : decode cX9_tell 48 = .ok (.iaload, 1) := by decide +kernel
theorem dX9_tell_49 : decode cX9_tell 49 = .ok (.ireturn, 1) := by decide +kernel
theorem dX9_check_0 : decode cX9_check 0 = .ok (.aload_n 0, 1) := by decide +kernel
theorem dX9_check_1 : decode cX9_check 1 = .ok (.getfield 9, 3) := by decide +kernel
theorem dX9_check_4 : decode cX9_check 4 = .ok (.iconst 4, 1) := by decide +kernel
theorem dX9_check_5 : decode cX9_check 5 = .ok (.iaload, 1) := by decide +kernel
theorem dX9_check_6 : decode cX9_check 6 = .ok (.istore_n 1, 1) := by decide +kernel
theorem dX9_check_7 : decode cX9_check 7 = .ok (.aload_n 0, 1) := by decide +kernel
theorem dX9_check_8 : decode cX9_check 8 = .ok (.getfield 9, 3) := by decide +kernel
theorem dX9_check_11 : decode cX9_check 11 = .ok (.iconst 4, 1) := by decide +kernel
theorem dX9_check_12 : decode cX9_check 12 = .ok (.iconst 0, 1) := by decide +kernel
theorem dX9_check_13 : decode cX9_check 13 = .ok (.iastore, 1) := by decide +kernel
theorem dX9_check_14 : decode cX9_check 14 = .ok (.aload_n 0, 1) := by decide +kernel
theorem dX9_check_15 : decode cX9_check 15 = .ok (.getfield 9, 3) := by decide +kernel
theorem dX9_check_18 : decode cX9_check 18 = .ok (.iconst 0, 1) := by decide +kernel
theorem dX9_check_19 : decode cX9_check 19 = .ok (.iaload, 1) := by decide +kernel
theorem dX9_check_20 : decode cX9_check 20 = .ok (.istore_n 2, 1) := by decide +kernel
theorem dX9_check_21 : decode cX9_check 21 = .ok (.iconst 0, 1) := by decide +kernel
theorem dX9_check_22 : decode cX9_check 22 = .ok (.istore_n 3, 1) := by decide +kernel
theorem dX9_check_23 : decode cX9_check 23 = .ok (.iconst 0, 1) := by decide +kernel
theorem dX9_check_24 : decode cX9_check 24 = .ok (.istore 4, 2) := by decide +kernel
theorem dX9_check_26 : decode cX9_check 26 = .ok (.iload 4, 2) := by decide +kernel
theorem dX9_check_28 : decode cX9_check 28 = .ok (.iload_n 1, 1) := by decide +kernel
theorem dX9_check_29 : decode cX9_check 29 = .ok (.if_icmp .ge 52, 3) := by decide +kernel
theorem dX9_check_32 : decode cX9_check 32 = .ok (.iload_n 3, 1) := by decide +kernel
theorem dX9_check_33 : decode cX9_check 33 = .ok (.ifCond .ne 48, 3) := by decide +kernel
theorem dX9_check_36 : decode cX9_check 36 = .ok (.aload_n 0, 1) := by decide +kernel
theorem dX9_check_37 : decode cX9_check 37 = .ok (.getfield 9, 3) := by decide +kernel
theorem dX9_check_40 : decode cX9_check 40 = .ok (.bipush 86, 2) := by decide +kernel
theorem dX9_check_42 : decode cX9_check 42 = .ok (.iload 4, 2) := by decide +kernel
theorem dX9_check_44 : decode cX9_check 44 = .ok (.iadd, 1) := by decide +kernel
theorem dX9_check_45 : decode cX9_check 45 = .ok (.iaload, 1) := by decide +kernel
theorem dX9_check_46 : decode cX9_check 46 = .ok (.aload_n 0, 1) := by decide +kernel
theorem dX9_check_47 : decode cX9_check 47 = .ok (.invokevirtual 195, 3) := by decide +kernel
theorem dX9_check_50 : decode cX9_check 50 = .ok (.invokestatic 189, 3) := by decide +kernel
theorem dX9_check_53 : decode cX9_check 53 = .ok (.if_icmp .ne 7, 3) := by decide +kernel
theorem dX9_check_56 : decode cX9_check 56 = .ok (.iconst 0, 1) := by decide +kernel
theorem dX9_check_57 : decode cX9_check 57 = .ok (.goto 7, 3) := by decide +kernel
theorem dX9_check_60 : decode cX9_check 60 = .ok (.iconst 1, 1) := by decide +kernel
theorem dX9_check_61 : decode cX9_check 61 = .ok (.iload 4, 2) := by decide +kernel
theorem dX9_check_63 : decode cX9_check 63 = .ok (.iadd, 1) := by decide +kernel
theorem dX9_check_64 : decode cX9_check 64 = .ok (.istore_n 3, 1) := by decide +kernel
theorem dX9_check_65 : decode cX9_check 65 = .ok (.aload_n 0, 1) := by decide +kernel
theorem dX9_check_66 : decode cX9_check 66 = .ok (.getfield 9, 3) := by decide +kernel
theorem dX9_check_69 : decode cX9_check 69 = .ok (.iconst 0, 1) := by decide +kernel
theorem dX9_check_70 : decode cX9_check 70 = .ok (.dup2, 1) := by decide +kernel
theorem dX9_check_71 : decode cX9_check 71 = .ok (.iaload, 1) := by decide +kernel
theorem dX9_check_72 : decode cX9_check 72 = .ok (.iconst 1, 1) := by decide +kernel
theorem dX9_check_73 : decode cX9_check 73 = .ok (.iadd, 1) := by decide +kernel
theorem dX9_check_74 : decode cX9_check 74 = .ok (.iastore, 1) := by decide +kernel
theorem dX9_check_75 : decode cX9_check 75 = .ok (.iinc 4 1, 3) := by decide +kernel
theorem dX9_check_78 : decode cX9_check 78 = .ok (.goto (-52), 3) := by decide +kernel
theorem dX9_check_81 : decode cX9_check 81 = .ok (.aload_n 0, 1) := by decide +kernel
theorem dX9_check_82 : decode cX9_check 82 = .ok (.getfield 9, 3) := by decide +kernel
theorem dX9_check_85 : decode cX9_check 85 = .ok (.iconst 0, 1) := by decide +kernel
theorem dX9_check_86 : decode cX9_check 86 = .ok (.iload_n 2, 1) := by decide +kernel
theorem dX9_check_87 : decode cX9_check 87 = .ok (.iastore, 1) := by decide +kernel
theorem dX9_check_88 : decode cX9_check 88 = .ok (.iload_n 3, 1) := by decide +kernel
theorem dX9_check_89 : decode cX9_check 89 = .ok (.ireturn, 1) := by decide +kernel
theorem dX9_heldNow_0 : decode cX9_heldNow 0 = .ok (.iconst 0, 1) := by decide +kernel
theorem dX9_heldNow_1 : decode cX9_heldNow 1 = .ok (.istore_n 1, 1) := by decide +kernel
theorem dX9_heldNow_2 : decode cX9_heldNow 2 = .ok (.iconst 0, 1) := by decide +kernel
theorem dX9_heldNow_3 : decode cX9_heldNow 3 = .ok (.istore_n 2, 1) := by decide +kernel
theorem dX9_heldNow_4 : decode cX9_heldNow 4 = .ok (.iload_n 2, 1) := by decide +kernel
theorem dX9_heldNow_5 : decode cX9_heldNow 5 = .ok (.aload_n 0, 1) := by decide +kernel
theorem dX9_heldNow_6 : decode cX9_heldNow 6 = .ok (.getfield 9, 3) := by decide +kernel
theorem dX9_heldNow_9 : decode cX9_heldNow 9 = .ok (.iconst 1, 1) := by decide +kernel
theorem dX9_heldNow_10 : decode cX9_heldNow 10 = .ok (.iaload, 1) := by decide +kernel
theorem dX9_heldNow_11 : decode cX9_heldNow 11 = .ok (.if_icmp .ge 18, 3) := by decide +kernel
theorem dX9_heldNow_14 : decode cX9_heldNow 14 = .ok (.iload_n 1, 1) := by decide +kernel
theorem dX9_heldNow_15 : decode cX9_heldNow 15 = .ok (.aload_n 0, 1) := by decide +kernel
theorem dX9_heldNow_16 : decode cX9_heldNow 16 = .ok (.iload_n 2, 1) := by decide +kernel
theorem dX9_heldNow_17 : decode cX9_heldNow 17 = .ok (.iconst 2, 1) := by decide +kernel
theorem dX9_heldNow_18 : decode cX9_heldNow 18 = .ok (.invokevirtual 179, 3) := by decide +kernel
theorem dX9_heldNow_21 : decode cX9_heldNow 21 = .ok (.ior, 1) := by decide +kernel
theorem dX9_heldNow_22 : decode cX9_heldNow 22 = .ok (.istore_n 1, 1) := by decide +kernel
theorem dX9_heldNow_23 : decode cX9_heldNow 23 = .ok (.iinc 2 1, 3) := by decide +kernel
theorem dX9_heldNow_26 : decode cX9_heldNow 26 = .ok (.goto (-22), 3) := by decide +kernel
theorem dX9_heldNow_29 : decode cX9_heldNow 29 = .ok (.iload_n 1, 1) := by decide +kernel
theorem dX9_heldNow_30 : decode cX9_heldNow 30 = .ok (.ireturn, 1) := by decide +kernel
theorem dX9_count_0 : decode cX9_count 0 = .ok (.iload_n 1, 1) := by decide +kernel
theorem dX9_count_1 : decode cX9_count 1 = .ok (.tableswitch 132 0 10 #[59, 66, 73, 78, 85, 93, 101, 106, 113, 120, 125], 59) := by decide +kernel
theorem dX9_count_60 : decode cX9_count 60 = .ok (.aload_n 0, 1) := by decide +kernel
theorem dX9_count_61 : decode cX9_count 61 = .ok (.getfield 9, 3) := by decide +kernel
theorem dX9_count_64 : decode cX9_count 64 = .ok (.iconst 1, 1) := by decide +kernel
theorem dX9_count_65 : decode cX9_count 65 = .ok (.iaload, 1) := by decide +kernel
theorem dX9_count_66 : decode cX9_count 66 = .ok (.ireturn, 1) := by decide +kernel
theorem dX9_count_67 : decode cX9_count 67 = .ok (.aload_n 0, 1) := by decide +kernel
theorem dX9_count_68 : decode cX9_count 68 = .ok (.getfield 9, 3) := by decide +kernel
theorem dX9_count_71 : decode cX9_count 71 = .ok (.iconst 0, 1) := by decide +kernel
theorem dX9_count_72 : decode cX9_count 72 = .ok (.iaload, 1) := by decide +kernel
theorem dX9_count_73 : decode cX9_count 73 = .ok (.ireturn, 1) := by decide +kernel
theorem dX9_count_74 : decode cX9_count 74 = .ok (.aload_n 0, 1) := by decide +kernel
theorem dX9_count_75 : decode cX9_count 75 = .ok (.invokevirtual 166, 3) := by decide +kernel
theorem dX9_count_78 : decode cX9_count 78 = .ok (.ireturn, 1) := by decide +kernel
theorem dX9_count_79 : decode cX9_count 79 = .ok (.aload_n 0, 1) := by decide +kernel
theorem dX9_count_80 : decode cX9_count 80 = .ok (.getfield 9, 3) := by decide +kernel
theorem dX9_count_83 : decode cX9_count 83 = .ok (.iconst 2, 1) := by decide +kernel
theorem dX9_count_84 : decode cX9_count 84 = .ok (.iaload, 1) := by decide +kernel
theorem dX9_count_85 : decode cX9_count 85 = .ok (.ireturn, 1) := by decide +kernel
theorem dX9_count_86 : decode cX9_count 86 = .ok (.aload_n 0, 1) := by decide +kernel
theorem dX9_count_87 : decode cX9_count 87 = .ok (.invokevirtual 329, 3) := by decide +kernel
theorem dX9_count_90 : decode cX9_count 90 = .ok (.invokestatic 189, 3) := by decide +kernel
theorem dX9_count_93 : decode cX9_count 93 = .ok (.ireturn, 1) := by decide +kernel
theorem dX9_count_94 : decode cX9_count 94 = .ok (.aload_n 0, 1) := by decide +kernel
theorem dX9_count_95 : decode cX9_count 95 = .ok (.invokevirtual 195, 3) := by decide +kernel
theorem dX9_count_98 : decode cX9_count 98 = .ok (.invokestatic 189, 3) := by decide +kernel
theorem dX9_count_101 : decode cX9_count 101 = .ok (.ireturn, 1) := by decide +kernel
theorem dX9_count_102 : decode cX9_count 102 = .ok (.aload_n 0, 1) := by decide +kernel
theorem dX9_count_103 : decode cX9_count 103 = .ok (.invokevirtual 243, 3) := by decide +kernel
theorem dX9_count_106 : decode cX9_count 106 = .ok (.ireturn, 1) := by decide +kernel
theorem dX9_count_107 : decode cX9_count 107 = .ok (.aload_n 0, 1) := by decide +kernel
theorem dX9_count_108 : decode cX9_count 108 = .ok (.getfield 9, 3) := by decide +kernel
theorem dX9_count_111 : decode cX9_count 111 = .ok (.iconst 3, 1) := by decide +kernel
theorem dX9_count_112 : decode cX9_count 112 = .ok (.iaload, 1) := by decide +kernel
theorem dX9_count_113 : decode cX9_count 113 = .ok (.ireturn, 1) := by decide +kernel
theorem dX9_count_114 : decode cX9_count 114 = .ok (.aload_n 0, 1) := by decide +kernel
theorem dX9_count_115 : decode cX9_count 115 = .ok (.getfield 9, 3) := by decide +kernel
theorem dX9_count_118 : decode cX9_count 118 = .ok (.iconst 4, 1) := by decide +kernel
theorem dX9_count_119 : decode cX9_count 119 = .ok (.iaload, 1) := by decide +kernel
theorem dX9_count_120 : decode cX9_count 120 = .ok (.ireturn, 1) := by decide +kernel
theorem dX9_count_121 : decode cX9_count 121 = .ok (.aload_n 0, 1) := by decide +kernel
theorem dX9_count_122 : decode cX9_count 122 = .ok (.getfield 296, 3) := by decide +kernel
theorem dX9_count_125 : decode cX9_count 125 = .ok (.ireturn, 1) := by decide +kernel
theorem dX9_count_126 : decode cX9_count 126 = .ok (.aload_n 0, 1) := by decide +kernel
theorem dX9_count_127 : decode cX9_count 127 = .ok (.getfield 9, 3) := by decide +kernel
theorem dX9_count_130 : decode cX9_count 130 = .ok (.iconst 5, 1) := by decide +kernel
theorem dX9_count_131 : decode cX9_count 131 = .ok (.iaload, 1) := by decide +kernel
theorem dX9_count_132 : decode cX9_count 132 = .ok (.ireturn, 1) := by decide +kernel
theorem dX9_count_133 : decode cX9_count 133 = .ok (.aload_n 0, 1) := by decide +kernel
theorem dX9_count_134 : decode cX9_count 134 = .ok (.ldc 80, 2) := by decide +kernel
theorem dX9_count_136 : decode cX9_count 136 = .ok (.invokevirtual 81, 3) := by decide +kernel
theorem dX9_count_139 : decode cX9_count 139 = .ok (.ireturn, 1) := by decide +kernel
theorem dX9_told_0 : decode cX9_told 0 = .ok (.iload_n 1, 1) := by decide +kernel
theorem dX9_told_1 : decode cX9_told 1 = .ok (.iconst 1, 1) := by decide +kernel
theorem dX9_told_2 : decode cX9_told 2 = .ok (.iconst 5, 1) := by decide +kernel
theorem dX9_told_3 : decode cX9_told 3 = .ok (.invokestatic 76, 3) := by decide +kernel
theorem dX9_told_6 : decode cX9_told 6 = .ok (.ifCond .eq 12, 3) := by decide +kernel
theorem dX9_told_9 : decode cX9_told 9 = .ok (.aload_n 0, 1) := by decide +kernel
theorem dX9_told_10 : decode cX9_told 10 = .ok (.getfield 19, 3) := by decide +kernel
theorem dX9_told_13 : decode cX9_told 13 = .ok (.iload_n 1, 1) := by decide +kernel
theorem dX9_told_14 : decode cX9_told 14 = .ok (.iaload, 1) := by decide +kernel
theorem dX9_told_15 : decode cX9_told 15 = .ok (.goto 9, 3) := by decide +kernel
theorem dX9_told_18 : decode cX9_told 18 = .ok (.aload_n 0, 1) := by decide +kernel
theorem dX9_told_19 : decode cX9_told 19 = .ok (.ldc 80, 2) := by decide +kernel
theorem dX9_told_21 : decode cX9_told 21 = .ok (.invokevirtual 81, 3) := by decide +kernel
theorem dX9_told_24 : decode cX9_told 24 = .ok (.ireturn, 1) := by decide +kernel
end
section
theorem dL_law_0 : decode cL_law 0 = .ok (.new 7, 3) := by decide +kernel
theorem dL_law_3 : decode cL_law 3 = .ok (.dup, 1) := by decide +kernel
theorem dL_law_4 : decode cL_law 4 = .ok (.invokespecial 9, 3) := by decide +kernel
theorem dL_law_7 : decode cL_law 7 = .ok (.astore_n 1, 1) := by decide +kernel
theorem dL_law_8 : decode cL_law 8 = .ok (.new 10, 3) := by decide +kernel
theorem dL_law_11 : decode cL_law 11 = .ok (.dup, 1) := by decide +kernel
theorem dL_law_12 : decode cL_law 12 = .ok (.invokespecial 12, 3) := by decide +kernel
theorem dL_law_15 : decode cL_law 15 = .ok (.astore_n 2, 1) := by decide +kernel
theorem dL_law_16 : decode cL_law 16 = .ok (.iconst 0, 1) := by decide +kernel
theorem dL_law_17 : decode cL_law 17 = .ok (.istore_n 3, 1) := by decide +kernel
theorem dL_law_18 : decode cL_law 18 = .ok (.iload_n 3, 1) := by decide +kernel
theorem dL_law_19 : decode cL_law 19 = .ok (.aload_n 0, 1) := by decide +kernel
theorem dL_law_20 : decode cL_law 20 = .ok (.arraylength, 1) := by decide +kernel
theorem dL_law_21 : decode cL_law 21 = .ok (.bipush 6, 2) := by decide +kernel
theorem dL_law_23 : decode cL_law 23 = .ok (.isub, 1) := by decide +kernel
theorem dL_law_24 : decode cL_law 24 = .ok (.if_icmp .gt 1350, 3) := by decide +kernel
theorem dL_law_27 : decode cL_law 27 = .ok (.aload_n 0, 1) := by decide +kernel
theorem dL_law_28 : decode cL_law 28 = .ok (.iload_n 3, 1) := by decide +kernel
theorem dL_law_29 : decode cL_law 29 = .ok (.iaload, 1) := by decide +kernel
theorem dL_law_30 : decode cL_law 30 = .ok (.bipush 63, 2) := by decide +kernel
theorem dL_law_32 : decode cL_law 32 = .ok (.iand, 1) := by decide +kernel
theorem dL_law_33 : decode cL_law 33 = .ok (.tableswitch 1335 0 39 #[175, 208, 231, 254, 277, 310, 343, 376, 409, 442, 465, 528, 551, 604, 627, 650, 693, 726, 749, 772, 785, 808, 831, 864, 897, 920, 943, 966, 1009, 1032, 1075, 1118, 1181, 1204, 1227, 1240, 1253, 1276, 1289, 1312], 175) := by decide +kernel
theorem dL_law_208 : decode cL_law 208 = .ok (.aload_n 1, 1) := by decide +kernel
theorem dL_law_209 : decode cL_law 209 = .ok (.aload_n 0, 1) := by decide +kernel
theorem dL_law_210 : decode cL_law 210 = .ok (.iload_n 3, 1) := by decide +kernel
theorem dL_law_211 : decode cL_law 211 = .ok (.iconst 1, 1) := by decide +kernel
theorem dL_law_212 : decode cL_law 212 = .ok (.iadd, 1) := by decide +kernel
theorem dL_law_213 : decode cL_law 213 = .ok (.iaload, 1) := by decide +kernel
theorem dL_law_214 : decode cL_law 214 = .ok (.aload_n 0, 1) := by decide +kernel
theorem dL_law_215 : decode cL_law 215 = .ok (.iload_n 3, 1) := by decide +kernel
theorem dL_law_216 : decode cL_law 216 = .ok (.iconst 2, 1) := by decide +kernel
theorem dL_law_217 : decode cL_law 217 = .ok (.iadd, 1) := by decide +kernel
theorem dL_law_218 : decode cL_law 218 = .ok (.iaload, 1) := by decide +kernel
theorem dL_law_219 : decode cL_law 219 = .ok (.invokevirtual 13, 3) := by decide +kernel
theorem dL_law_222 : decode cL_law 222 = .ok (.aload_n 2, 1) := by decide +kernel
theorem dL_law_223 : decode cL_law 223 = .ok (.aload_n 0, 1) := by decide +kernel
theorem dL_law_224 : decode cL_law 224 = .ok (.iload_n 3, 1) := by decide +kernel
theorem dL_law_225 : decode cL_law 225 = .ok (.iconst 1, 1) := by decide +kernel
theorem dL_law_226 : decode cL_law 226 = .ok (.iadd, 1) := by decide +kernel
theorem dL_law_227 : decode cL_law 227 = .ok (.iaload, 1) := by decide +kernel
theorem dL_law_228 : decode cL_law 228 = .ok (.aload_n 0, 1) := by decide +kernel
theorem dL_law_229 : decode cL_law 229 = .ok (.iload_n 3, 1) := by decide +kernel
theorem dL_law_230 : decode cL_law 230 = .ok (.iconst 2, 1) := by decide +kernel
theorem dL_law_231 : decode cL_law 231 = .ok (.iadd, 1) := by decide +kernel
theorem dL_law_232 : decode cL_law 232 = .ok (.iaload, 1) := by decide +kernel
theorem dL_law_233 : decode cL_law 233 = .ok (.invokevirtual 17, 3) := by decide +kernel
theorem dL_law_236 : decode cL_law 236 = .ok (.if_icmp .eq 1132, 3) := by decide +kernel
theorem dL_law_239 : decode cL_law 239 = .ok (.iconst 0, 1) := by decide +kernel
theorem dL_law_240 : decode cL_law 240 = .ok (.ireturn, 1) := by decide +kernel
theorem dL_law_241 : decode cL_law 241 = .ok (.aload_n 1, 1) := by decide +kernel
theorem dL_law_242 : decode cL_law 242 = .ok (.aload_n 0, 1) := by decide +kernel
theorem dL_law_243 : decode cL_law 243 = .ok (.iload_n 3, 1) := by decide +kernel
theorem dL_law_244 : decode cL_law 244 = .ok (.iconst 1, 1) := by decide +kernel
theorem dL_law_245 : decode cL_law 245 = .ok (.iadd, 1) := by decide +kernel
theorem dL_law_246 : decode cL_law 246 = .ok (.iaload, 1) := by decide +kernel
theorem dL_law_247 : decode cL_law 247 = .ok (.invokevirtual 18, 3) := by decide +kernel
theorem dL_law_250 : decode cL_law 250 = .ok (.aload_n 2, 1) := by decide +kernel
theorem dL_law_251 : decode cL_law 251 = .ok (.aload_n 0, 1) := by decide +kernel
theorem dL_law_252 : decode cL_law 252 = .ok (.iload_n 3, 1) := by decide +kernel
theorem dL_law_253 : decode cL_law 253 = .ok (.iconst 1, 1) := by decide +kernel
theorem dL_law_254 : decode cL_law 254 = .ok (.iadd, 1) := by decide +kernel
theorem dL_law_255 : decode cL_law 255 = .ok (.iaload, 1) := by decide +kernel
theorem dL_law_256 : decode cL_law 256 = .ok (.invokevirtual 22, 3) := by decide +kernel
theorem dL_law_259 : decode cL_law 259 = .ok (.if_icmp .eq 1109, 3) := by decide +kernel
theorem dL_law_262 : decode cL_law 262 = .ok (.iconst 0, 1) := by decide +kernel
theorem dL_law_263 : decode cL_law 263 = .ok (.ireturn, 1) := by decide +kernel
theorem dL_law_264 : decode cL_law 264 = .ok (.aload_n 1, 1) := by decide +kernel
theorem dL_law_265 : decode cL_law 265 = .ok (.aload_n 0, 1) := by decide +kernel
theorem dL_law_266 : decode cL_law 266 = .ok (.iload_n 3, 1) := by decide +kernel
theorem dL_law_267 : decode cL_law 267 = .ok (.iconst 1, 1) := by decide +kernel
theorem dL_law_268 : decode cL_law 268 = .ok (.iadd, 1) := by decide +kernel
theorem dL_law_269 : decode cL_law 269 = .ok (.iaload, 1) := by decide +kernel
theorem dL_law_270 : decode cL_law 270 = .ok (.invokevirtual 23, 3) := by decide +kernel
theorem dL_law_273 : decode cL_law 273 = .ok (.aload_n 2, 1) := by decide +kernel
theorem dL_law_274 : decode cL_law 274 = .ok (.aload_n 0, 1) := by decide +kernel
theorem dL_law_275 : decode cL_law 275 = .ok (.iload_n 3, 1) := by decide +kernel
theorem dL_law_276 : decode cL_law 276 = .ok (.iconst 1, 1) := by decide +kernel
theorem dL_law_277 : decode cL_law 277 = .ok (.iadd, 1) := by decide +kernel
theorem dL_law_278 : decode cL_law 278 = .ok (.iaload, 1) := by decide +kernel
theorem dL_law_279 : decode cL_law 279 = .ok (.invokevirtual 26, 3) := by decide +kernel
theorem dL_law_282 : decode cL_law 282 = .ok (.if_icmp .eq 1086, 3) := by decide +kernel
theorem dL_law_285 : decode cL_law 285 = .ok (.iconst 0, 1) := by decide +kernel
theorem dL_law_286 : decode cL_law 286 = .ok (.ireturn, 1) := by decide +kernel
theorem dL_law_287 : decode cL_law 287 = .ok (.aload_n 1, 1) := by decide +kernel
theorem dL_law_288 : decode cL_law 288 = .ok (.aload_n 0, 1) := by decide +kernel
theorem dL_law_289 : decode cL_law 289 = .ok (.iload_n 3, 1) := by decide +kernel
theorem dL_law_290 : decode cL_law 290 = .ok (.iconst 1, 1) := by decide +kernel
theorem dL_law_291 : decode cL_law 291 = .ok (.iadd, 1) := by decide +kernel
theorem dL_law_292 : decode cL_law 292 = .ok (.iaload, 1) := by decide +kernel
theorem dL_law_293 : decode cL_law 293 = .ok (.invokevirtual 27, 3) := by decide +kernel
theorem dL_law_296 : decode cL_law 296 = .ok (.aload_n 2, 1) := by decide +kernel
theorem dL_law_297 : decode cL_law 297 = .ok (.aload_n 0, 1) := by decide +kernel
theorem dL_law_298 : decode cL_law 298 = .ok (.iload_n 3, 1) := by decide +kernel
theorem dL_law_299 : decode cL_law 299 = .ok (.iconst 1, 1) := by decide +kernel
theorem dL_law_300 : decode cL_law 300 = .ok (.iadd, 1) := by decide +kernel
theorem dL_law_301 : decode cL_law 301 = .ok (.iaload, 1) := by decide +kernel
theorem dL_law_302 : decode cL_law 302 = .ok (.invokevirtual 30, 3) := by decide +kernel
theorem dL_law_305 : decode cL_law 305 = .ok (.if_icmp .eq 1063, 3) := by decide +kernel
theorem dL_law_308 : decode cL_law 308 = .ok (.iconst 0, 1) := by decide +kernel
theorem dL_law_309 : decode cL_law 309 = .ok (.ireturn, 1) := by decide +kernel
theorem dL_law_310 : decode cL_law 310 = .ok (.aload_n 1, 1) := by decide +kernel
theorem dL_law_311 : decode cL_law 311 = .ok (.aload_n 0, 1) := by decide +kernel
theorem dL_law_312 : decode cL_law 312 = .ok (.iload_n 3, 1) := by decide +kernel
theorem dL_law_313 : decode cL_law 313 = .ok (.iconst 1, 1) := by decide +kernel
theorem dL_law_314 : decode cL_law 314 = .ok (.iadd, 1) := by decide +kernel
theorem dL_law_315 : decode cL_law 315 = .ok (.iaload, 1) := by decide +kernel
theorem dL_law_316 : decode cL_law 316 = .ok (.aload_n 0, 1) := by decide +kernel
theorem dL_law_317 : decode cL_law 317 = .ok (.iload_n 3, 1) := by decide +kernel
theorem dL_law_318 : decode cL_law 318 = .ok (.iconst 2, 1) := by decide +kernel
theorem dL_law_319 : decode cL_law 319 = .ok (.iadd, 1) := by decide +kernel
theorem dL_law_320 : decode cL_law 320 = .ok (.iaload, 1) := by decide +kernel
theorem dL_law_321 : decode cL_law 321 = .ok (.invokevirtual 31, 3) := by decide +kernel
theorem dL_law_324 : decode cL_law 324 = .ok (.aload_n 2, 1) := by decide +kernel
theorem dL_law_325 : decode cL_law 325 = .ok (.aload_n 0, 1) := by decide +kernel
theorem dL_law_326 : decode cL_law 326 = .ok (.iload_n 3, 1) := by decide +kernel
theorem dL_law_327 : decode cL_law 327 = .ok (.iconst 1, 1) := by decide +kernel
theorem dL_law_328 : decode cL_law 328 = .ok (.iadd, 1) := by decide +kernel
theorem dL_law_329 : decode cL_law 329 = .ok (.iaload, 1) := by decide +kernel
theorem dL_law_330 : decode cL_law 330 = .ok (.aload_n 0, 1) := by decide +kernel
theorem dL_law_331 : decode cL_law 331 = .ok (.iload_n 3, 1) := by decide +kernel
theorem dL_law_332 : decode cL_law 332 = .ok (.iconst 2, 1) := by decide +kernel
theorem dL_law_333 : decode cL_law 333 = .ok (.iadd, 1) := by decide +kernel
theorem dL_law_334 : decode cL_law 334 = .ok (.iaload, 1) := by decide +kernel
theorem dL_law_335 : decode cL_law 335 = .ok (.invokevirtual 34, 3) := by decide +kernel
theorem dL_law_338 : decode cL_law 338 = .ok (.if_icmp .eq 1030, 3) := by decide +kernel
theorem dL_law_341 : decode cL_law 341 = .ok (.iconst 0, 1) := by decide +kernel
theorem dL_law_342 : decode cL_law 342 = .ok (.ireturn, 1) := by decide +kernel
theorem dL_law_343 : decode cL_law 343 = .ok (.aload_n 1, 1) := by decide +kernel
theorem dL_law_344 : decode cL_law 344 = .ok (.aload_n 0, 1) := by decide +kernel
theorem dL_law_345 : decode cL_law 345 = .ok (.iload_n 3, 1) := by decide +kernel
theorem dL_law_346 : decode cL_law 346 = .ok (.iconst 1, 1) := by decide +kernel
theorem dL_law_347 : decode cL_law 347 = .ok (.iadd, 1) := by decide +kernel
theorem dL_law_348 : decode cL_law 348 = .ok (.iaload, 1) := by decide +kernel
theorem dL_law_349 : decode cL_law 349 = .ok (.aload_n 0, 1) := by decide +kernel
theorem dL_law_350 : decode cL_law 350 = .ok (.iload_n 3, 1) := by decide +kernel
theorem dL_law_351 : decode cL_law 351 = .ok (.iconst 2, 1) := by decide +kernel
theorem dL_law_352 : decode cL_law 352 = .ok (.iadd, 1) := by decide +kernel
theorem dL_law_353 : decode cL_law 353 = .ok (.iaload, 1) := by decide +kernel
theorem dL_law_354 : decode cL_law 354 = .ok (.invokevirtual 35, 3) := by decide +kernel
theorem dL_law_357 : decode cL_law 357 = .ok (.aload_n 2, 1) := by decide +kernel
theorem dL_law_358 : decode cL_law 358 = .ok (.aload_n 0, 1) := by decide +kernel
theorem dL_law_359 : decode cL_law 359 = .ok (.iload_n 3, 1) := by decide +kernel
theorem dL_law_360 : decode cL_law 360 = .ok (.iconst 1, 1) := by decide +kernel
theorem dL_law_361 : decode cL_law 361 = .ok (.iadd, 1) := by decide +kernel
theorem dL_law_362 : decode cL_law 362 = .ok (.iaload, 1) := by decide +kernel
theorem dL_law_363 : decode cL_law 363 = .ok (.aload_n 0, 1) := by decide +kernel
theorem dL_law_364 : decode cL_law 364 = .ok (.iload_n 3, 1) := by decide +kernel
theorem dL_law_365 : decode cL_law 365 = .ok (.iconst 2, 1) := by decide +kernel
theorem dL_law_366 : decode cL_law 366 = .ok (.iadd, 1) := by decide +kernel
theorem dL_law_367 : decode cL_law 367 = .ok (.iaload, 1) := by decide +kernel
theorem dL_law_368 : decode cL_law 368 = .ok (.invokevirtual 38, 3) := by decide +kernel
theorem dL_law_371 : decode cL_law 371 = .ok (.if_icmp .eq 997, 3) := by decide +kernel
theorem dL_law_374 : decode cL_law 374 = .ok (.iconst 0, 1) := by decide +kernel
theorem dL_law_375 : decode cL_law 375 = .ok (.ireturn, 1) := by decide +kernel
theorem dL_law_376 : decode cL_law 376 = .ok (.aload_n 1, 1) := by decide +kernel
theorem dL_law_377 : decode cL_law 377 = .ok (.aload_n 0, 1) := by decide +kernel
theorem dL_law_378 : decode cL_law 378 = .ok (.iload_n 3, 1) := by decide +kernel
theorem dL_law_379 : decode cL_law 379 = .ok (.iconst 1, 1) := by decide +kernel
theorem dL_law_380 : decode cL_law 380 = .ok (.iadd, 1) := by decide +kernel
theorem dL_law_381 : decode cL_law 381 = .ok (.iaload, 1) := by decide +kernel
theorem dL_law_382 : decode cL_law 382 = .ok (.aload_n 0, 1) := by decide +kernel
theorem dL_law_383 : decode cL_law 383 = .ok (.iload_n 3, 1) := by decide +kernel
theorem dL_law_384 : decode cL_law 384 = .ok (.iconst 2, 1) := by decide +kernel
theorem dL_law_385 : decode cL_law 385 = .ok (.iadd, 1) := by decide +kernel
theorem dL_law_386 : decode cL_law 386 = .ok (.iaload, 1) := by decide +kernel
theorem dL_law_387 : decode cL_law 387 = .ok (.invokevirtual 39, 3) := by decide +kernel
theorem dL_law_390 : decode cL_law 390 = .ok (.aload_n 2, 1) := by decide +kernel
theorem dL_law_391 : decode cL_law 391 = .ok (.aload_n 0, 1) := by decide +kernel
theorem dL_law_392 : decode cL_law 392 = .ok (.iload_n 3, 1) := by decide +kernel
theorem dL_law_393 : decode cL_law 393 = .ok (.iconst 1, 1) := by decide +kernel
theorem dL_law_394 : decode cL_law 394 = .ok (.iadd, 1) := by decide +kernel
theorem dL_law_395 : decode cL_law 395 = .ok (.iaload, 1) := by decide +kernel
theorem dL_law_396 : decode cL_law 396 = .ok (.aload_n 0, 1) := by decide +kernel
theorem dL_law_397 : decode cL_law 397 = .ok (.iload_n 3, 1) := by decide +kernel
theorem dL_law_398 : decode cL_law 398 = .ok (.iconst 2, 1) := by decide +kernel
theorem dL_law_399 : decode cL_law 399 = .ok (.iadd, 1) := by decide +kernel
theorem dL_law_400 : decode cL_law 400 = .ok (.iaload, 1) := by decide +kernel
theorem dL_law_401 : decode cL_law 401 = .ok (.invokevirtual 42, 3) := by decide +kernel
theorem dL_law_404 : decode cL_law 404 = .ok (.if_icmp .eq 964, 3) := by decide +kernel
theorem dL_law_407 : decode cL_law 407 = .ok (.iconst 0, 1) := by decide +kernel
theorem dL_law_408 : decode cL_law 408 = .ok (.ireturn, 1) := by decide +kernel
theorem dL_law_409 : decode cL_law 409 = .ok (.aload_n 1, 1) := by decide +kernel
theorem dL_law_410 : decode cL_law 410 = .ok (.aload_n 0, 1) := by decide +kernel
theorem dL_law_411 : decode cL_law 411 = .ok (.iload_n 3, 1) := by decide +kernel
theorem dL_law_412 : decode cL_law 412 = .ok (.iconst 1, 1) := by decide +kernel
theorem dL_law_413 : decode cL_law 413 = .ok (.iadd, 1) := by decide +kernel
theorem dL_law_414 : decode cL_law 414 = .ok (.iaload, 1) := by decide +kernel
theorem dL_law_415 : decode cL_law 415 = .ok (.aload_n 0, 1) := by decide +kernel
theorem dL_law_416 : decode cL_law 416 = .ok (.iload_n 3, 1) := by decide +kernel
theorem dL_law_417 : decode cL_law 417 = .ok (.iconst 2, 1) := by decide +kernel
theorem dL_law_418 : decode cL_law 418 = .ok (.iadd, 1) := by decide +kernel
theorem dL_law_419 : decode cL_law 419 = .ok (.iaload, 1) := by decide +kernel
theorem dL_law_420 : decode cL_law 420 = .ok (.invokevirtual 43, 3) := by decide +kernel
theorem dL_law_423 : decode cL_law 423 = .ok (.aload_n 2, 1) := by decide +kernel
theorem dL_law_424 : decode cL_law 424 = .ok (.aload_n 0, 1) := by decide +kernel
theorem dL_law_425 : decode cL_law 425 = .ok (.iload_n 3, 1) := by decide +kernel
theorem dL_law_426 : decode cL_law 426 = .ok (.iconst 1, 1) := by decide +kernel
theorem dL_law_427 : decode cL_law 427 = .ok (.iadd, 1) := by decide +kernel
theorem dL_law_428 : decode cL_law 428 = .ok (.iaload, 1) := by decide +kernel
theorem dL_law_429 : decode cL_law 429 = .ok (.aload_n 0, 1) := by decide +kernel
theorem dL_law_430 : decode cL_law 430 = .ok (.iload_n 3, 1) := by decide +kernel
theorem dL_law_431 : decode cL_law 431 = .ok (.iconst 2, 1) := by decide +kernel
theorem dL_law_432 : decode cL_law 432 = .ok (.iadd, 1) := by decide +kernel
theorem dL_law_433 : decode cL_law 433 = .ok (.iaload, 1) := by decide +kernel
theorem dL_law_434 : decode cL_law 434 = .ok (.invokevirtual 46, 3) := by decide +kernel
theorem dL_law_437 : decode cL_law 437 = .ok (.if_icmp .eq 931, 3) := by decide +kernel
theorem dL_law_440 : decode cL_law 440 = .ok (.iconst 0, 1) := by decide +kernel
theorem dL_law_441 : decode cL_law 441 = .ok (.ireturn, 1) := by decide +kernel
theorem dL_law_442 : decode cL_law 442 = .ok (.aload_n 1, 1) := by decide +kernel
theorem dL_law_443 : decode cL_law 443 = .ok (.aload_n 0, 1) := by decide +kernel
theorem dL_law_444 : decode cL_law 444 = .ok (.iload_n 3, 1) := by decide +kernel
theorem dL_law_445 : decode cL_law 445 = .ok (.iconst 1, 1) := by decide +kernel
theorem dL_law_446 : decode cL_law 446 = .ok (.iadd, 1) := by decide +kernel
theorem dL_law_447 : decode cL_law 447 = .ok (.iaload, 1) := by decide +kernel
theorem dL_law_448 : decode cL_law 448 = .ok (.aload_n 0, 1) := by decide +kernel
theorem dL_law_449 : decode cL_law 449 = .ok (.iload_n 3, 1) := by decide +kernel
theorem dL_law_450 : decode cL_law 450 = .ok (.iconst 2, 1) := by decide +kernel
theorem dL_law_451 : decode cL_law 451 = .ok (.iadd, 1) := by decide +kernel
theorem dL_law_452 : decode cL_law 452 = .ok (.iaload, 1) := by decide +kernel
theorem dL_law_453 : decode cL_law 453 = .ok (.invokevirtual 47, 3) := by decide +kernel
theorem dL_law_456 : decode cL_law 456 = .ok (.aload_n 2, 1) := by decide +kernel
theorem dL_law_457 : decode cL_law 457 = .ok (.aload_n 0, 1) := by decide +kernel
theorem dL_law_458 : decode cL_law 458 = .ok (.iload_n 3, 1) := by decide +kernel
theorem dL_law_459 : decode cL_law 459 = .ok (.iconst 1, 1) := by decide +kernel
theorem dL_law_460 : decode cL_law 460 = .ok (.iadd, 1) := by decide +kernel
theorem dL_law_461 : decode cL_law 461 = .ok (.iaload, 1) := by decide +kernel
theorem dL_law_462 : decode cL_law 462 = .ok (.aload_n 0, 1) := by decide +kernel
theorem dL_law_463 : decode cL_law 463 = .ok (.iload_n 3, 1) := by decide +kernel
theorem dL_law_464 : decode cL_law 464 = .ok (.iconst 2, 1) := by decide +kernel
theorem dL_law_465 : decode cL_law 465 = .ok (.iadd, 1) := by decide +kernel
theorem dL_law_466 : decode cL_law 466 = .ok (.iaload, 1) := by decide +kernel
theorem dL_law_467 : decode cL_law 467 = .ok (.invokevirtual 50, 3) := by decide +kernel
theorem dL_law_470 : decode cL_law 470 = .ok (.if_icmp .eq 898, 3) := by decide +kernel
theorem dL_law_473 : decode cL_law 473 = .ok (.iconst 0, 1) := by decide +kernel
theorem dL_law_474 : decode cL_law 474 = .ok (.ireturn, 1) := by decide +kernel
theorem dL_law_475 : decode cL_law 475 = .ok (.aload_n 1, 1) := by decide +kernel
theorem dL_law_476 : decode cL_law 476 = .ok (.aload_n 0, 1) := by decide +kernel
theorem dL_law_477 : decode cL_law 477 = .ok (.iload_n 3, 1) := by decide +kernel
theorem dL_law_478 : decode cL_law 478 = .ok (.iconst 1, 1) := by decide +kernel
theorem dL_law_479 : decode cL_law 479 = .ok (.iadd, 1) := by decide +kernel
theorem dL_law_480 : decode cL_law 480 = .ok (.iaload, 1) := by decide +kernel
theorem dL_law_481 : decode cL_law 481 = .ok (.invokevirtual 51, 3) := by decide +kernel
theorem dL_law_484 : decode cL_law 484 = .ok (.aload_n 2, 1) := by decide +kernel
theorem dL_law_485 : decode cL_law 485 = .ok (.aload_n 0, 1) := by decide +kernel
theorem dL_law_486 : decode cL_law 486 = .ok (.iload_n 3, 1) := by decide +kernel
theorem dL_law_487 : decode cL_law 487 = .ok (.iconst 1, 1) := by decide +kernel
theorem dL_law_488 : decode cL_law 488 = .ok (.iadd, 1) := by decide +kernel
theorem dL_law_489 : decode cL_law 489 = .ok (.iaload, 1) := by decide +kernel
theorem dL_law_490 : decode cL_law 490 = .ok (.invokevirtual 54, 3) := by decide +kernel
theorem dL_law_493 : decode cL_law 493 = .ok (.if_icmp .eq 875, 3) := by decide +kernel
theorem dL_law_496 : decode cL_law 496 = .ok (.iconst 0, 1) := by decide +kernel
theorem dL_law_497 : decode cL_law 497 = .ok (.ireturn, 1) := by decide +kernel
theorem dL_law_498 : decode cL_law 498 = .ok (.aload_n 1, 1) := by decide +kernel
theorem dL_law_499 : decode cL_law 499 = .ok (.aload_n 0, 1) := by decide +kernel
theorem dL_law_500 : decode cL_law 500 = .ok (.iload_n 3, 1) := by decide +kernel
theorem dL_law_501 : decode cL_law 501 = .ok (.iconst 1, 1) := by decide +kernel
theorem dL_law_502 : decode cL_law 502 = .ok (.iadd, 1) := by decide +kernel
theorem dL_law_503 : decode cL_law 503 = .ok (.iaload, 1) := by decide +kernel
theorem dL_law_504 : decode cL_law 504 = .ok (.i2l, 1) := by decide +kernel
theorem dL_law_505 : decode cL_law 505 = .ok (.bipush 32, 2) := by decide +kernel
theorem dL_law_507 : decode cL_law 507 = .ok (.lshl, 1) := by decide +kernel
theorem dL_law_508 : decode cL_law 508 = .ok (.aload_n 0, 1) := by decide +kernel
theorem dL_law_509 : decode cL_law 509 = .ok (.iload_n 3, 1) := by decide +kernel
theorem dL_law_510 : decode cL_law 510 = .ok (.iconst 2, 1) := by decide +kernel
theorem dL_law_511 : decode cL_law 511 = .ok (.iadd, 1) := by decide +kernel
theorem dL_law_512 : decode cL_law 512 = .ok (.iaload, 1) := by decide +kernel
theorem dL_law_513 : decode cL_law 513 = .ok (.i2l, 1) := by decide +kernel
theorem dL_law_514 : decode cL_law 514 = .ok (.ldc2_w 55, 3) := by decide +kernel
theorem dL_law_517 : decode cL_law 517 = .ok (.land, 1) := by decide +kernel
theorem dL_law_518 : decode cL_law 518 = .ok (.lor, 1) := by decide +kernel
theorem dL_law_519 : decode cL_law 519 = .ok (.aload_n 0, 1) := by decide +kernel
theorem dL_law_520 : decode cL_law 520 = .ok (.iload_n 3, 1) := by decide +kernel
theorem dL_law_521 : decode cL_law 521 = .ok (.iconst 3, 1) := by decide +kernel
theorem dL_law_522 : decode cL_law 522 = .ok (.iadd, 1) := by decide +kernel
theorem dL_law_523 : decode cL_law 523 = .ok (.iaload, 1) := by decide +kernel
theorem dL_law_524 : decode cL_law 524 = .ok (.invokevirtual 57, 3) := by decide +kernel
theorem dL_law_527 : decode cL_law 527 = .ok (.aload_n 2, 1) := by decide +kernel
theorem dL_law_528 : decode cL_law 528 = .ok (.aload_n 0, 1) := by decide +kernel
theorem dL_law_529 : decode cL_law 529 = .ok (.iload_n 3, 1) := by decide +kernel
theorem dL_law_530 : decode cL_law 530 = .ok (.iconst 1, 1) := by decide +kernel
theorem dL_law_531 : decode cL_law 531 = .ok (.iadd, 1) := by decide +kernel
theorem dL_law_532 : decode cL_law 532 = .ok (.iaload, 1) := by decide +kernel
theorem dL_law_533 : decode cL_law 533 = .ok (.i2l, 1) := by decide +kernel
theorem dL_law_534 : decode cL_law 534 = .ok (.bipush 32, 2) := by decide +kernel
theorem dL_law_536 : decode cL_law 536 = .ok (.lshl, 1) := by decide +kernel
theorem dL_law_537 : decode cL_law 537 = .ok (.aload_n 0, 1) := by decide +kernel
theorem dL_law_538 : decode cL_law 538 = .ok (.iload_n 3, 1) := by decide +kernel
theorem dL_law_539 : decode cL_law 539 = .ok (.iconst 2, 1) := by decide +kernel
theorem dL_law_540 : decode cL_law 540 = .ok (.iadd, 1) := by decide +kernel
theorem dL_law_541 : decode cL_law 541 = .ok (.iaload, 1) := by decide +kernel
theorem dL_law_542 : decode cL_law 542 = .ok (.i2l, 1) := by decide +kernel
theorem dL_law_543 : decode cL_law 543 = .ok (.ldc2_w 55, 3) := by decide +kernel
theorem dL_law_546 : decode cL_law 546 = .ok (.land, 1) := by decide +kernel
theorem dL_law_547 : decode cL_law 547 = .ok (.lor, 1) := by decide +kernel
theorem dL_law_548 : decode cL_law 548 = .ok (.aload_n 0, 1) := by decide +kernel
theorem dL_law_549 : decode cL_law 549 = .ok (.iload_n 3, 1) := by decide +kernel
theorem dL_law_550 : decode cL_law 550 = .ok (.iconst 3, 1) := by decide +kernel
theorem dL_law_551 : decode cL_law 551 = .ok (.iadd, 1) := by decide +kernel
theorem dL_law_552 : decode cL_law 552 = .ok (.iaload, 1) := by decide +kernel
theorem dL_law_553 : decode cL_law 553 = .ok (.invokevirtual 61, 3) := by decide +kernel
theorem dL_law_556 : decode cL_law 556 = .ok (.if_icmp .eq 812, 3) := by decide +kernel
theorem dL_law_559 : decode cL_law 559 = .ok (.iconst 0, 1) := by decide +kernel
theorem dL_law_560 : decode cL_law 560 = .ok (.ireturn, 1) := by decide +kernel
theorem dL_law_561 : decode cL_law 561 = .ok (.aload_n 1, 1) := by decide +kernel
theorem dL_law_562 : decode cL_law 562 = .ok (.aload_n 0, 1) := by decide +kernel
theorem dL_law_563 : decode cL_law 563 = .ok (.iload_n 3, 1) := by decide +kernel
theorem dL_law_564 : decode cL_law 564 = .ok (.iconst 1, 1) := by decide +kernel
theorem dL_law_565 : decode cL_law 565 = .ok (.iadd, 1) := by decide +kernel
theorem dL_law_566 : decode cL_law 566 = .ok (.iaload, 1) := by decide +kernel
theorem dL_law_567 : decode cL_law 567 = .ok (.invokevirtual 62, 3) := by decide +kernel
theorem dL_law_570 : decode cL_law 570 = .ok (.aload_n 2, 1) := by decide +kernel
theorem dL_law_571 : decode cL_law 571 = .ok (.aload_n 0, 1) := by decide +kernel
theorem dL_law_572 : decode cL_law 572 = .ok (.iload_n 3, 1) := by decide +kernel
theorem dL_law_573 : decode cL_law 573 = .ok (.iconst 1, 1) := by decide +kernel
theorem dL_law_574 : decode cL_law 574 = .ok (.iadd, 1) := by decide +kernel
theorem dL_law_575 : decode cL_law 575 = .ok (.iaload, 1) := by decide +kernel
theorem dL_law_576 : decode cL_law 576 = .ok (.invokevirtual 65, 3) := by decide +kernel
theorem dL_law_579 : decode cL_law 579 = .ok (.if_icmp .eq 789, 3) := by decide +kernel
theorem dL_law_582 : decode cL_law 582 = .ok (.iconst 0, 1) := by decide +kernel
theorem dL_law_583 : decode cL_law 583 = .ok (.ireturn, 1) := by decide +kernel
theorem dL_law_584 : decode cL_law 584 = .ok (.aload_n 1, 1) := by decide +kernel
theorem dL_law_585 : decode cL_law 585 = .ok (.aload_n 0, 1) := by decide +kernel
theorem dL_law_586 : decode cL_law 586 = .ok (.iload_n 3, 1) := by decide +kernel
theorem dL_law_587 : decode cL_law 587 = .ok (.iconst 1, 1) := by decide +kernel
theorem dL_law_588 : decode cL_law 588 = .ok (.iadd, 1) := by decide +kernel
theorem dL_law_589 : decode cL_law 589 = .ok (.iaload, 1) := by decide +kernel
theorem dL_law_590 : decode cL_law 590 = .ok (.aload_n 0, 1) := by decide +kernel
theorem dL_law_591 : decode cL_law 591 = .ok (.iload_n 3, 1) := by decide +kernel
theorem dL_law_592 : decode cL_law 592 = .ok (.iconst 2, 1) := by decide +kernel
theorem dL_law_593 : decode cL_law 593 = .ok (.iadd, 1) := by decide +kernel
theorem dL_law_594 : decode cL_law 594 = .ok (.iaload, 1) := by decide +kernel
theorem dL_law_595 : decode cL_law 595 = .ok (.aload_n 0, 1) := by decide +kernel
theorem dL_law_596 : decode cL_law 596 = .ok (.iload_n 3, 1) := by decide +kernel
theorem dL_law_597 : decode cL_law 597 = .ok (.iconst 3, 1) := by decide +kernel
theorem dL_law_598 : decode cL_law 598 = .ok (.iadd, 1) := by decide +kernel
theorem dL_law_599 : decode cL_law 599 = .ok (.iaload, 1) := by decide +kernel
theorem dL_law_600 : decode cL_law 600 = .ok (.aload_n 0, 1) := by decide +kernel
theorem dL_law_601 : decode cL_law 601 = .ok (.iload_n 3, 1) := by decide +kernel
theorem dL_law_602 : decode cL_law 602 = .ok (.iconst 4, 1) := by decide +kernel
theorem dL_law_603 : decode cL_law 603 = .ok (.iadd, 1) := by decide +kernel
theorem dL_law_604 : decode cL_law 604 = .ok (.iaload, 1) := by decide +kernel
theorem dL_law_605 : decode cL_law 605 = .ok (.invokevirtual 66, 3) := by decide +kernel
theorem dL_law_608 : decode cL_law 608 = .ok (.aload_n 2, 1) := by decide +kernel
theorem dL_law_609 : decode cL_law 609 = .ok (.aload_n 0, 1) := by decide +kernel
theorem dL_law_610 : decode cL_law 610 = .ok (.iload_n 3, 1) := by decide +kernel
theorem dL_law_611 : decode cL_law 611 = .ok (.iconst 1, 1) := by decide +kernel
theorem dL_law_612 : decode cL_law 612 = .ok (.iadd, 1) := by decide +kernel
theorem dL_law_613 : decode cL_law 613 = .ok (.iaload, 1) := by decide +kernel
theorem dL_law_614 : decode cL_law 614 = .ok (.aload_n 0, 1) := by decide +kernel
theorem dL_law_615 : decode cL_law 615 = .ok (.iload_n 3, 1) := by decide +kernel
theorem dL_law_616 : decode cL_law 616 = .ok (.iconst 2, 1) := by decide +kernel
theorem dL_law_617 : decode cL_law 617 = .ok (.iadd, 1) := by decide +kernel
theorem dL_law_618 : decode cL_law 618 = .ok (.iaload, 1) := by decide +kernel
theorem dL_law_619 : decode cL_law 619 = .ok (.aload_n 0, 1) := by decide +kernel
theorem dL_law_620 : decode cL_law 620 = .ok (.iload_n 3, 1) := by decide +kernel
theorem dL_law_621 : decode cL_law 621 = .ok (.iconst 3, 1) := by decide +kernel
theorem dL_law_622 : decode cL_law 622 = .ok (.iadd, 1) := by decide +kernel
theorem dL_law_623 : decode cL_law 623 = .ok (.iaload, 1) := by decide +kernel
theorem dL_law_624 : decode cL_law 624 = .ok (.aload_n 0, 1) := by decide +kernel
theorem dL_law_625 : decode cL_law 625 = .ok (.iload_n 3, 1) := by decide +kernel
theorem dL_law_626 : decode cL_law 626 = .ok (.iconst 4, 1) := by decide +kernel
theorem dL_law_627 : decode cL_law 627 = .ok (.iadd, 1) := by decide +kernel
theorem dL_law_628 : decode cL_law 628 = .ok (.iaload, 1) := by decide +kernel
theorem dL_law_629 : decode cL_law 629 = .ok (.invokevirtual 70, 3) := by decide +kernel
theorem dL_law_632 : decode cL_law 632 = .ok (.if_icmp .eq 736, 3) := by decide +kernel
theorem dL_law_635 : decode cL_law 635 = .ok (.iconst 0, 1) := by decide +kernel
theorem dL_law_636 : decode cL_law 636 = .ok (.ireturn, 1) := by decide +kernel
theorem dL_law_637 : decode cL_law 637 = .ok (.aload_n 1, 1) := by decide +kernel
theorem dL_law_638 : decode cL_law 638 = .ok (.aload_n 0, 1) := by decide +kernel
theorem dL_law_639 : decode cL_law 639 = .ok (.iload_n 3, 1) := by decide +kernel
theorem dL_law_640 : decode cL_law 640 = .ok (.iconst 1, 1) := by decide +kernel
theorem dL_law_641 : decode cL_law 641 = .ok (.iadd, 1) := by decide +kernel
theorem dL_law_642 : decode cL_law 642 = .ok (.iaload, 1) := by decide +kernel
theorem dL_law_643 : decode cL_law 643 = .ok (.invokevirtual 71, 3) := by decide +kernel
theorem dL_law_646 : decode cL_law 646 = .ok (.aload_n 2, 1) := by decide +kernel
theorem dL_law_647 : decode cL_law 647 = .ok (.aload_n 0, 1) := by decide +kernel
theorem dL_law_648 : decode cL_law 648 = .ok (.iload_n 3, 1) := by decide +kernel
theorem dL_law_649 : decode cL_law 649 = .ok (.iconst 1, 1) := by decide +kernel
theorem dL_law_650 : decode cL_law 650 = .ok (.iadd, 1) := by decide +kernel
theorem dL_law_651 : decode cL_law 651 = .ok (.iaload, 1) := by decide +kernel
theorem dL_law_652 : decode cL_law 652 = .ok (.invokevirtual 74, 3) := by decide +kernel
theorem dL_law_655 : decode cL_law 655 = .ok (.if_icmp .eq 713, 3) := by decide +kernel
theorem dL_law_658 : decode cL_law 658 = .ok (.iconst 0, 1) := by decide +kernel
theorem dL_law_659 : decode cL_law 659 = .ok (.ireturn, 1) := by decide +kernel
theorem dL_law_660 : decode cL_law 660 = .ok (.aload_n 1, 1) := by decide +kernel
theorem dL_law_661 : decode cL_law 661 = .ok (.aload_n 0, 1) := by decide +kernel
theorem dL_law_662 : decode cL_law 662 = .ok (.iload_n 3, 1) := by decide +kernel
theorem dL_law_663 : decode cL_law 663 = .ok (.iconst 1, 1) := by decide +kernel
theorem dL_law_664 : decode cL_law 664 = .ok (.iadd, 1) := by decide +kernel
theorem dL_law_665 : decode cL_law 665 = .ok (.iaload, 1) := by decide +kernel
theorem dL_law_666 : decode cL_law 666 = .ok (.invokevirtual 75, 3) := by decide +kernel
theorem dL_law_669 : decode cL_law 669 = .ok (.aload_n 2, 1) := by decide +kernel
theorem dL_law_670 : decode cL_law 670 = .ok (.aload_n 0, 1) := by decide +kernel
theorem dL_law_671 : decode cL_law 671 = .ok (.iload_n 3, 1) := by decide +kernel
theorem dL_law_672 : decode cL_law 672 = .ok (.iconst 1, 1) := by decide +kernel
theorem dL_law_673 : decode cL_law 673 = .ok (.iadd, 1) := by decide +kernel
theorem dL_law_674 : decode cL_law 674 = .ok (.iaload, 1) := by decide +kernel
theorem dL_law_675 : decode cL_law 675 = .ok (.invokevirtual 78, 3) := by decide +kernel
theorem dL_law_678 : decode cL_law 678 = .ok (.if_icmp .eq 690, 3) := by decide +kernel
theorem dL_law_681 : decode cL_law 681 = .ok (.iconst 0, 1) := by decide +kernel
theorem dL_law_682 : decode cL_law 682 = .ok (.ireturn, 1) := by decide +kernel
theorem dL_law_683 : decode cL_law 683 = .ok (.aload_n 1, 1) := by decide +kernel
theorem dL_law_684 : decode cL_law 684 = .ok (.aload_n 0, 1) := by decide +kernel
theorem dL_law_685 : decode cL_law 685 = .ok (.iload_n 3, 1) := by decide +kernel
theorem dL_law_686 : decode cL_law 686 = .ok (.iconst 1, 1) := by decide +kernel
theorem dL_law_687 : decode cL_law 687 = .ok (.iadd, 1) := by decide +kernel
theorem dL_law_688 : decode cL_law 688 = .ok (.iaload, 1) := by decide +kernel
theorem dL_law_689 : decode cL_law 689 = .ok (.aload_n 0, 1) := by decide +kernel
theorem dL_law_690 : decode cL_law 690 = .ok (.iload_n 3, 1) := by decide +kernel
theorem dL_law_691 : decode cL_law 691 = .ok (.iconst 2, 1) := by decide +kernel
theorem dL_law_692 : decode cL_law 692 = .ok (.iadd, 1) := by decide +kernel
theorem dL_law_693 : decode cL_law 693 = .ok (.iaload, 1) := by decide +kernel
theorem dL_law_694 : decode cL_law 694 = .ok (.aload_n 0, 1) := by decide +kernel
theorem dL_law_695 : decode cL_law 695 = .ok (.iload_n 3, 1) := by decide +kernel
theorem dL_law_696 : decode cL_law 696 = .ok (.iconst 3, 1) := by decide +kernel
theorem dL_law_697 : decode cL_law 697 = .ok (.iadd, 1) := by decide +kernel
theorem dL_law_698 : decode cL_law 698 = .ok (.iaload, 1) := by decide +kernel
theorem dL_law_699 : decode cL_law 699 = .ok (.invokevirtual 79, 3) := by decide +kernel
theorem dL_law_702 : decode cL_law 702 = .ok (.aload_n 2, 1) := by decide +kernel
theorem dL_law_703 : decode cL_law 703 = .ok (.aload_n 0, 1) := by decide +kernel
theorem dL_law_704 : decode cL_law 704 = .ok (.iload_n 3, 1) := by decide +kernel
theorem dL_law_705 : decode cL_law 705 = .ok (.iconst 1, 1) := by decide +kernel
theorem dL_law_706 : decode cL_law 706 = .ok (.iadd, 1) := by decide +kernel
theorem dL_law_707 : decode cL_law 707 = .ok (.iaload, 1) := by decide +kernel
theorem dL_law_708 : decode cL_law 708 = .ok (.aload_n 0, 1) := by decide +kernel
theorem dL_law_709 : decode cL_law 709 = .ok (.iload_n 3, 1) := by decide +kernel
theorem dL_law_710 : decode cL_law 710 = .ok (.iconst 2, 1) := by decide +kernel
theorem dL_law_711 : decode cL_law 711 = .ok (.iadd, 1) := by decide +kernel
theorem dL_law_712 : decode cL_law 712 = .ok (.iaload, 1) := by decide +kernel
theorem dL_law_713 : decode cL_law 713 = .ok (.aload_n 0, 1) := by decide +kernel
theorem dL_law_714 : decode cL_law 714 = .ok (.iload_n 3, 1) := by decide +kernel
theorem dL_law_715 : decode cL_law 715 = .ok (.iconst 3, 1) := by decide +kernel
theorem dL_law_716 : decode cL_law 716 = .ok (.iadd, 1) := by decide +kernel
theorem dL_law_717 : decode cL_law 717 = .ok (.iaload, 1) := by decide +kernel
theorem dL_law_718 : decode cL_law 718 = .ok (.invokevirtual 83, 3) := by decide +kernel
theorem dL_law_721 : decode cL_law 721 = .ok (.if_icmp .eq 647, 3) := by decide +kernel
theorem dL_law_724 : decode cL_law 724 = .ok (.iconst 0, 1) := by decide +kernel
theorem dL_law_725 : decode cL_law 725 = .ok (.ireturn, 1) := by decide +kernel
theorem dL_law_726 : decode cL_law 726 = .ok (.aload_n 1, 1) := by decide +kernel
theorem dL_law_727 : decode cL_law 727 = .ok (.aload_n 0, 1) := by decide +kernel
theorem dL_law_728 : decode cL_law 728 = .ok (.iload_n 3, 1) := by decide +kernel
theorem dL_law_729 : decode cL_law 729 = .ok (.iconst 1, 1) := by decide +kernel
theorem dL_law_730 : decode cL_law 730 = .ok (.iadd, 1) := by decide +kernel
theorem dL_law_731 : decode cL_law 731 = .ok (.iaload, 1) := by decide +kernel
theorem dL_law_732 : decode cL_law 732 = .ok (.aload_n 0, 1) := by decide +kernel
theorem dL_law_733 : decode cL_law 733 = .ok (.iload_n 3, 1) := by decide +kernel
theorem dL_law_734 : decode cL_law 734 = .ok (.iconst 2, 1) := by decide +kernel
theorem dL_law_735 : decode cL_law 735 = .ok (.iadd, 1) := by decide +kernel
theorem dL_law_736 : decode cL_law 736 = .ok (.iaload, 1) := by decide +kernel
theorem dL_law_737 : decode cL_law 737 = .ok (.invokevirtual 84, 3) := by decide +kernel
theorem dL_law_740 : decode cL_law 740 = .ok (.aload_n 2, 1) := by decide +kernel
theorem dL_law_741 : decode cL_law 741 = .ok (.aload_n 0, 1) := by decide +kernel
theorem dL_law_742 : decode cL_law 742 = .ok (.iload_n 3, 1) := by decide +kernel
theorem dL_law_743 : decode cL_law 743 = .ok (.iconst 1, 1) := by decide +kernel
theorem dL_law_744 : decode cL_law 744 = .ok (.iadd, 1) := by decide +kernel
theorem dL_law_745 : decode cL_law 745 = .ok (.iaload, 1) := by decide +kernel
theorem dL_law_746 : decode cL_law 746 = .ok (.aload_n 0, 1) := by decide +kernel
theorem dL_law_747 : decode cL_law 747 = .ok (.iload_n 3, 1) := by decide +kernel
theorem dL_law_748 : decode cL_law 748 = .ok (.iconst 2, 1) := by decide +kernel
theorem dL_law_749 : decode cL_law 749 = .ok (.iadd, 1) := by decide +kernel
theorem dL_law_750 : decode cL_law 750 = .ok (.iaload, 1) := by decide +kernel
theorem dL_law_751 : decode cL_law 751 = .ok (.invokevirtual 87, 3) := by decide +kernel
theorem dL_law_754 : decode cL_law 754 = .ok (.if_icmp .eq 614, 3) := by decide +kernel
theorem dL_law_757 : decode cL_law 757 = .ok (.iconst 0, 1) := by decide +kernel
theorem dL_law_758 : decode cL_law 758 = .ok (.ireturn, 1) := by decide +kernel
theorem dL_law_759 : decode cL_law 759 = .ok (.aload_n 1, 1) := by decide +kernel
theorem dL_law_760 : decode cL_law 760 = .ok (.aload_n 0, 1) := by decide +kernel
theorem dL_law_761 : decode cL_law 761 = .ok (.iload_n 3, 1) := by decide +kernel
theorem dL_law_762 : decode cL_law 762 = .ok (.iconst 1, 1) := by decide +kernel
theorem dL_law_763 : decode cL_law 763 = .ok (.iadd, 1) := by decide +kernel
theorem dL_law_764 : decode cL_law 764 = .ok (.iaload, 1) := by decide +kernel
theorem dL_law_765 : decode cL_law 765 = .ok (.invokevirtual 88, 3) := by decide +kernel
theorem dL_law_768 : decode cL_law 768 = .ok (.aload_n 2, 1) := by decide +kernel
theorem dL_law_769 : decode cL_law 769 = .ok (.aload_n 0, 1) := by decide +kernel
theorem dL_law_770 : decode cL_law 770 = .ok (.iload_n 3, 1) := by decide +kernel
theorem dL_law_771 : decode cL_law 771 = .ok (.iconst 1, 1) := by decide +kernel
theorem dL_law_772 : decode cL_law 772 = .ok (.iadd, 1) := by decide +kernel
theorem dL_law_773 : decode cL_law 773 = .ok (.iaload, 1) := by decide +kernel
theorem dL_law_774 : decode cL_law 774 = .ok (.invokevirtual 91, 3) := by decide +kernel
theorem dL_law_777 : decode cL_law 777 = .ok (.if_icmp .eq 591, 3) := by decide +kernel
theorem dL_law_780 : decode cL_law 780 = .ok (.iconst 0, 1) := by decide +kernel
theorem dL_law_781 : decode cL_law 781 = .ok (.ireturn, 1) := by decide +kernel
theorem dL_law_782 : decode cL_law 782 = .ok (.aload_n 1, 1) := by decide +kernel
theorem dL_law_783 : decode cL_law 783 = .ok (.aload_n 0, 1) := by decide +kernel
theorem dL_law_784 : decode cL_law 784 = .ok (.iload_n 3, 1) := by decide +kernel
theorem dL_law_785 : decode cL_law 785 = .ok (.iconst 1, 1) := by decide +kernel
theorem dL_law_786 : decode cL_law 786 = .ok (.iadd, 1) := by decide +kernel
theorem dL_law_787 : decode cL_law 787 = .ok (.iaload, 1) := by decide +kernel
theorem dL_law_788 : decode cL_law 788 = .ok (.invokevirtual 92, 3) := by decide +kernel
theorem dL_law_791 : decode cL_law 791 = .ok (.aload_n 2, 1) := by decide +kernel
theorem dL_law_792 : decode cL_law 792 = .ok (.aload_n 0, 1) := by decide +kernel
theorem dL_law_793 : decode cL_law 793 = .ok (.iload_n 3, 1) := by decide +kernel
theorem dL_law_794 : decode cL_law 794 = .ok (.iconst 1, 1) := by decide +kernel
theorem dL_law_795 : decode cL_law 795 = .ok (.iadd, 1) := by decide +kernel
theorem dL_law_796 : decode cL_law 796 = .ok (.iaload, 1) := by decide +kernel
theorem dL_law_797 : decode cL_law 797 = .ok (.invokevirtual 95, 3) := by decide +kernel
theorem dL_law_800 : decode cL_law 800 = .ok (.if_icmp .eq 568, 3) := by decide +kernel
theorem dL_law_803 : decode cL_law 803 = .ok (.iconst 0, 1) := by decide +kernel
theorem dL_law_804 : decode cL_law 804 = .ok (.ireturn, 1) := by decide +kernel
theorem dL_law_805 : decode cL_law 805 = .ok (.aload_n 1, 1) := by decide +kernel
theorem dL_law_806 : decode cL_law 806 = .ok (.invokevirtual 96, 3) := by decide +kernel
theorem dL_law_809 : decode cL_law 809 = .ok (.aload_n 2, 1) := by decide +kernel
theorem dL_law_810 : decode cL_law 810 = .ok (.invokevirtual 100, 3) := by decide +kernel
theorem dL_law_813 : decode cL_law 813 = .ok (.if_icmp .eq 555, 3) := by decide +kernel
theorem dL_law_816 : decode cL_law 816 = .ok (.iconst 0, 1) := by decide +kernel
theorem dL_law_817 : decode cL_law 817 = .ok (.ireturn, 1) := by decide +kernel
theorem dL_law_818 : decode cL_law 818 = .ok (.aload_n 1, 1) := by decide +kernel
theorem dL_law_819 : decode cL_law 819 = .ok (.aload_n 0, 1) := by decide +kernel
theorem dL_law_820 : decode cL_law 820 = .ok (.iload_n 3, 1) := by decide +kernel
theorem dL_law_821 : decode cL_law 821 = .ok (.iconst 1, 1) := by decide +kernel
theorem dL_law_822 : decode cL_law 822 = .ok (.iadd, 1) := by decide +kernel
theorem dL_law_823 : decode cL_law 823 = .ok (.iaload, 1) := by decide +kernel
theorem dL_law_824 : decode cL_law 824 = .ok (.invokevirtual 101, 3) := by decide +kernel
theorem dL_law_827 : decode cL_law 827 = .ok (.aload_n 2, 1) := by decide +kernel
theorem dL_law_828 : decode cL_law 828 = .ok (.aload_n 0, 1) := by decide +kernel
theorem dL_law_829 : decode cL_law 829 = .ok (.iload_n 3, 1) := by decide +kernel
theorem dL_law_830 : decode cL_law 830 = .ok (.iconst 1, 1) := by decide +kernel
theorem dL_law_831 : decode cL_law 831 = .ok (.iadd, 1) := by decide +kernel
theorem dL_law_832 : decode cL_law 832 = .ok (.iaload, 1) := by decide +kernel
theorem dL_law_833 : decode cL_law 833 = .ok (.invokevirtual 104, 3) := by decide +kernel
theorem dL_law_836 : decode cL_law 836 = .ok (.if_icmp .eq 532, 3) := by decide +kernel
theorem dL_law_839 : decode cL_law 839 = .ok (.iconst 0, 1) := by decide +kernel
theorem dL_law_840 : decode cL_law 840 = .ok (.ireturn, 1) := by decide +kernel
theorem dL_law_841 : decode cL_law 841 = .ok (.aload_n 1, 1) := by decide +kernel
theorem dL_law_842 : decode cL_law 842 = .ok (.aload_n 0, 1) := by decide +kernel
theorem dL_law_843 : decode cL_law 843 = .ok (.iload_n 3, 1) := by decide +kernel
theorem dL_law_844 : decode cL_law 844 = .ok (.iconst 1, 1) := by decide +kernel
theorem dL_law_845 : decode cL_law 845 = .ok (.iadd, 1) := by decide +kernel
theorem dL_law_846 : decode cL_law 846 = .ok (.iaload, 1) := by decide +kernel
theorem dL_law_847 : decode cL_law 847 = .ok (.invokevirtual 105, 3) := by decide +kernel
theorem dL_law_850 : decode cL_law 850 = .ok (.aload_n 2, 1) := by decide +kernel
theorem dL_law_851 : decode cL_law 851 = .ok (.aload_n 0, 1) := by decide +kernel
theorem dL_law_852 : decode cL_law 852 = .ok (.iload_n 3, 1) := by decide +kernel
theorem dL_law_853 : decode cL_law 853 = .ok (.iconst 1, 1) := by decide +kernel
theorem dL_law_854 : decode cL_law 854 = .ok (.iadd, 1) := by decide +kernel
theorem dL_law_855 : decode cL_law 855 = .ok (.iaload, 1) := by decide +kernel
theorem dL_law_856 : decode cL_law 856 = .ok (.invokevirtual 108, 3) := by decide +kernel
theorem dL_law_859 : decode cL_law 859 = .ok (.if_icmp .eq 509, 3) := by decide +kernel
theorem dL_law_862 : decode cL_law 862 = .ok (.iconst 0, 1) := by decide +kernel
theorem dL_law_863 : decode cL_law 863 = .ok (.ireturn, 1) := by decide +kernel
theorem dL_law_864 : decode cL_law 864 = .ok (.aload_n 1, 1) := by decide +kernel
theorem dL_law_865 : decode cL_law 865 = .ok (.aload_n 0, 1) := by decide +kernel
theorem dL_law_866 : decode cL_law 866 = .ok (.iload_n 3, 1) := by decide +kernel
theorem dL_law_867 : decode cL_law 867 = .ok (.iconst 1, 1) := by decide +kernel
theorem dL_law_868 : decode cL_law 868 = .ok (.iadd, 1) := by decide +kernel
theorem dL_law_869 : decode cL_law 869 = .ok (.iaload, 1) := by decide +kernel
theorem dL_law_870 : decode cL_law 870 = .ok (.aload_n 0, 1) := by decide +kernel
theorem dL_law_871 : decode cL_law 871 = .ok (.iload_n 3, 1) := by decide +kernel
theorem dL_law_872 : decode cL_law 872 = .ok (.iconst 2, 1) := by decide +kernel
theorem dL_law_873 : decode cL_law 873 = .ok (.iadd, 1) := by decide +kernel
theorem dL_law_874 : decode cL_law 874 = .ok (.iaload, 1) := by decide +kernel
theorem dL_law_875 : decode cL_law 875 = .ok (.invokevirtual 109, 3) := by decide +kernel
theorem dL_law_878 : decode cL_law 878 = .ok (.aload_n 2, 1) := by decide +kernel
theorem dL_law_879 : decode cL_law 879 = .ok (.aload_n 0, 1) := by decide +kernel
theorem dL_law_880 : decode cL_law 880 = .ok (.iload_n 3, 1) := by decide +kernel
theorem dL_law_881 : decode cL_law 881 = .ok (.iconst 1, 1) := by decide +kernel
theorem dL_law_882 : decode cL_law 882 = .ok (.iadd, 1) := by decide +kernel
theorem dL_law_883 : decode cL_law 883 = .ok (.iaload, 1) := by decide +kernel
theorem dL_law_884 : decode cL_law 884 = .ok (.aload_n 0, 1) := by decide +kernel
theorem dL_law_885 : decode cL_law 885 = .ok (.iload_n 3, 1) := by decide +kernel
theorem dL_law_886 : decode cL_law 886 = .ok (.iconst 2, 1) := by decide +kernel
theorem dL_law_887 : decode cL_law 887 = .ok (.iadd, 1) := by decide +kernel
theorem dL_law_888 : decode cL_law 888 = .ok (.iaload, 1) := by decide +kernel
theorem dL_law_889 : decode cL_law 889 = .ok (.invokevirtual 112, 3) := by decide +kernel
theorem dL_law_892 : decode cL_law 892 = .ok (.if_icmp .eq 476, 3) := by decide +kernel
theorem dL_law_895 : decode cL_law 895 = .ok (.iconst 0, 1) := by decide +kernel
theorem dL_law_896 : decode cL_law 896 = .ok (.ireturn, 1) := by decide +kernel
theorem dL_law_897 : decode cL_law 897 = .ok (.aload_n 1, 1) := by decide +kernel
theorem dL_law_898 : decode cL_law 898 = .ok (.aload_n 0, 1) := by decide +kernel
theorem dL_law_899 : decode cL_law 899 = .ok (.iload_n 3, 1) := by decide +kernel
theorem dL_law_900 : decode cL_law 900 = .ok (.iconst 1, 1) := by decide +kernel
theorem dL_law_901 : decode cL_law 901 = .ok (.iadd, 1) := by decide +kernel
theorem dL_law_902 : decode cL_law 902 = .ok (.iaload, 1) := by decide +kernel
theorem dL_law_903 : decode cL_law 903 = .ok (.aload_n 0, 1) := by decide +kernel
theorem dL_law_904 : decode cL_law 904 = .ok (.iload_n 3, 1) := by decide +kernel
theorem dL_law_905 : decode cL_law 905 = .ok (.iconst 2, 1) := by decide +kernel
theorem dL_law_906 : decode cL_law 906 = .ok (.iadd, 1) := by decide +kernel
theorem dL_law_907 : decode cL_law 907 = .ok (.iaload, 1) := by decide +kernel
theorem dL_law_908 : decode cL_law 908 = .ok (.invokevirtual 113, 3) := by decide +kernel
theorem dL_law_911 : decode cL_law 911 = .ok (.aload_n 2, 1) := by decide +kernel
theorem dL_law_912 : decode cL_law 912 = .ok (.aload_n 0, 1) := by decide +kernel
theorem dL_law_913 : decode cL_law 913 = .ok (.iload_n 3, 1) := by decide +kernel
theorem dL_law_914 : decode cL_law 914 = .ok (.iconst 1, 1) := by decide +kernel
theorem dL_law_915 : decode cL_law 915 = .ok (.iadd, 1) := by decide +kernel
theorem dL_law_916 : decode cL_law 916 = .ok (.iaload, 1) := by decide +kernel
theorem dL_law_917 : decode cL_law 917 = .ok (.aload_n 0, 1) := by decide +kernel
theorem dL_law_918 : decode cL_law 918 = .ok (.iload_n 3, 1) := by decide +kernel
theorem dL_law_919 : decode cL_law 919 = .ok (.iconst 2, 1) := by decide +kernel
theorem dL_law_920 : decode cL_law 920 = .ok (.iadd, 1) := by decide +kernel
theorem dL_law_921 : decode cL_law 921 = .ok (.iaload, 1) := by decide +kernel
theorem dL_law_922 : decode cL_law 922 = .ok (.invokevirtual 116, 3) := by decide +kernel
theorem dL_law_925 : decode cL_law 925 = .ok (.if_icmp .eq 443, 3) := by decide +kernel
theorem dL_law_928 : decode cL_law 928 = .ok (.iconst 0, 1) := by decide +kernel
theorem dL_law_929 : decode cL_law 929 = .ok (.ireturn, 1) := by decide +kernel
theorem dL_law_930 : decode cL_law 930 = .ok (.aload_n 1, 1) := by decide +kernel
theorem dL_law_931 : decode cL_law 931 = .ok (.aload_n 0, 1) := by decide +kernel
theorem dL_law_932 : decode cL_law 932 = .ok (.iload_n 3, 1) := by decide +kernel
theorem dL_law_933 : decode cL_law 933 = .ok (.iconst 1, 1) := by decide +kernel
theorem dL_law_934 : decode cL_law 934 = .ok (.iadd, 1) := by decide +kernel
theorem dL_law_935 : decode cL_law 935 = .ok (.iaload, 1) := by decide +kernel
theorem dL_law_936 : decode cL_law 936 = .ok (.invokevirtual 117, 3) := by decide +kernel
theorem dL_law_939 : decode cL_law 939 = .ok (.aload_n 2, 1) := by decide +kernel
theorem dL_law_940 : decode cL_law 940 = .ok (.aload_n 0, 1) := by decide +kernel
theorem dL_law_941 : decode cL_law 941 = .ok (.iload_n 3, 1) := by decide +kernel
theorem dL_law_942 : decode cL_law 942 = .ok (.iconst 1, 1) := by decide +kernel
theorem dL_law_943 : decode cL_law 943 = .ok (.iadd, 1) := by decide +kernel
theorem dL_law_944 : decode cL_law 944 = .ok (.iaload, 1) := by decide +kernel
theorem dL_law_945 : decode cL_law 945 = .ok (.invokevirtual 120, 3) := by decide +kernel
theorem dL_law_948 : decode cL_law 948 = .ok (.if_icmp .eq 420, 3) := by decide +kernel
theorem dL_law_951 : decode cL_law 951 = .ok (.iconst 0, 1) := by decide +kernel
theorem dL_law_952 : decode cL_law 952 = .ok (.ireturn, 1) := by decide +kernel
theorem dL_law_953 : decode cL_law 953 = .ok (.aload_n 1, 1) := by decide +kernel
theorem dL_law_954 : decode cL_law 954 = .ok (.aload_n 0, 1) := by decide +kernel
theorem dL_law_955 : decode cL_law 955 = .ok (.iload_n 3, 1) := by decide +kernel
theorem dL_law_956 : decode cL_law 956 = .ok (.iconst 1, 1) := by decide +kernel
theorem dL_law_957 : decode cL_law 957 = .ok (.iadd, 1) := by decide +kernel
theorem dL_law_958 : decode cL_law 958 = .ok (.iaload, 1) := by decide +kernel
theorem dL_law_959 : decode cL_law 959 = .ok (.invokevirtual 121, 3) := by decide +kernel
theorem dL_law_962 : decode cL_law 962 = .ok (.aload_n 2, 1) := by decide +kernel
theorem dL_law_963 : decode cL_law 963 = .ok (.aload_n 0, 1) := by decide +kernel
theorem dL_law_964 : decode cL_law 964 = .ok (.iload_n 3, 1) := by decide +kernel
theorem dL_law_965 : decode cL_law 965 = .ok (.iconst 1, 1) := by decide +kernel
theorem dL_law_966 : decode cL_law 966 = .ok (.iadd, 1) := by decide +kernel
theorem dL_law_967 : decode cL_law 967 = .ok (.iaload, 1) := by decide +kernel
theorem dL_law_968 : decode cL_law 968 = .ok (.invokevirtual 124, 3) := by decide +kernel
theorem dL_law_971 : decode cL_law 971 = .ok (.if_icmp .eq 397, 3) := by decide +kernel
theorem dL_law_974 : decode cL_law 974 = .ok (.iconst 0, 1) := by decide +kernel
theorem dL_law_975 : decode cL_law 975 = .ok (.ireturn, 1) := by decide +kernel
theorem dL_law_976 : decode cL_law 976 = .ok (.aload_n 1, 1) := by decide +kernel
theorem dL_law_977 : decode cL_law 977 = .ok (.aload_n 0, 1) := by decide +kernel
theorem dL_law_978 : decode cL_law 978 = .ok (.iload_n 3, 1) := by decide +kernel
theorem dL_law_979 : decode cL_law 979 = .ok (.iconst 1, 1) := by decide +kernel
theorem dL_law_980 : decode cL_law 980 = .ok (.iadd, 1) := by decide +kernel
theorem dL_law_981 : decode cL_law 981 = .ok (.iaload, 1) := by decide +kernel
theorem dL_law_982 : decode cL_law 982 = .ok (.invokevirtual 125, 3) := by decide +kernel
theorem dL_law_985 : decode cL_law 985 = .ok (.aload_n 2, 1) := by decide +kernel
theorem dL_law_986 : decode cL_law 986 = .ok (.aload_n 0, 1) := by decide +kernel
theorem dL_law_987 : decode cL_law 987 = .ok (.iload_n 3, 1) := by decide +kernel
theorem dL_law_988 : decode cL_law 988 = .ok (.iconst 1, 1) := by decide +kernel
theorem dL_law_989 : decode cL_law 989 = .ok (.iadd, 1) := by decide +kernel
theorem dL_law_990 : decode cL_law 990 = .ok (.iaload, 1) := by decide +kernel
theorem dL_law_991 : decode cL_law 991 = .ok (.invokevirtual 128, 3) := by decide +kernel
theorem dL_law_994 : decode cL_law 994 = .ok (.if_icmp .eq 374, 3) := by decide +kernel
theorem dL_law_997 : decode cL_law 997 = .ok (.iconst 0, 1) := by decide +kernel
theorem dL_law_998 : decode cL_law 998 = .ok (.ireturn, 1) := by decide +kernel
theorem dL_law_999 : decode cL_law 999 = .ok (.aload_n 1, 1) := by decide +kernel
theorem dL_law_1000 : decode cL_law 1000 = .ok (.aload_n 0, 1) := by decide +kernel
theorem dL_law_1001 : decode cL_law 1001 = .ok (.iload_n 3, 1) := by decide +kernel
theorem dL_law_1002 : decode cL_law 1002 = .ok (.iconst 1, 1) := by decide +kernel
theorem dL_law_1003 : decode cL_law 1003 = .ok (.iadd, 1) := by decide +kernel
theorem dL_law_1004 : decode cL_law 1004 = .ok (.iaload, 1) := by decide +kernel
theorem dL_law_1005 : decode cL_law 1005 = .ok (.aload_n 0, 1) := by decide +kernel
theorem dL_law_1006 : decode cL_law 1006 = .ok (.iload_n 3, 1) := by decide +kernel
theorem dL_law_1007 : decode cL_law 1007 = .ok (.iconst 2, 1) := by decide +kernel
theorem dL_law_1008 : decode cL_law 1008 = .ok (.iadd, 1) := by decide +kernel
theorem dL_law_1009 : decode cL_law 1009 = .ok (.iaload, 1) := by decide +kernel
theorem dL_law_1010 : decode cL_law 1010 = .ok (.aload_n 0, 1) := by decide +kernel
theorem dL_law_1011 : decode cL_law 1011 = .ok (.iload_n 3, 1) := by decide +kernel
theorem dL_law_1012 : decode cL_law 1012 = .ok (.iconst 3, 1) := by decide +kernel
theorem dL_law_1013 : decode cL_law 1013 = .ok (.iadd, 1) := by decide +kernel
theorem dL_law_1014 : decode cL_law 1014 = .ok (.iaload, 1) := by decide +kernel
theorem dL_law_1015 : decode cL_law 1015 = .ok (.invokevirtual 129, 3) := by decide +kernel
theorem dL_law_1018 : decode cL_law 1018 = .ok (.aload_n 2, 1) := by decide +kernel
theorem dL_law_1019 : decode cL_law 1019 = .ok (.aload_n 0, 1) := by decide +kernel
theorem dL_law_1020 : decode cL_law 1020 = .ok (.iload_n 3, 1) := by decide +kernel
theorem dL_law_1021 : decode cL_law 1021 = .ok (.iconst 1, 1) := by decide +kernel
theorem dL_law_1022 : decode cL_law 1022 = .ok (.iadd, 1) := by decide +kernel
theorem dL_law_1023 : decode cL_law 1023 = .ok (.iaload, 1) := by decide +kernel
theorem dL_law_1024 : decode cL_law 1024 = .ok (.aload_n 0, 1) := by decide +kernel
theorem dL_law_1025 : decode cL_law 1025 = .ok (.iload_n 3, 1) := by decide +kernel
theorem dL_law_1026 : decode cL_law 1026 = .ok (.iconst 2, 1) := by decide +kernel
theorem dL_law_1027 : decode cL_law 1027 = .ok (.iadd, 1) := by decide +kernel
theorem dL_law_1028 : decode cL_law 1028 = .ok (.iaload, 1) := by decide +kernel
theorem dL_law_1029 : decode cL_law 1029 = .ok (.aload_n 0, 1) := by decide +kernel
theorem dL_law_1030 : decode cL_law 1030 = .ok (.iload_n 3, 1) := by decide +kernel
theorem dL_law_1031 : decode cL_law 1031 = .ok (.iconst 3, 1) := by decide +kernel
theorem dL_law_1032 : decode cL_law 1032 = .ok (.iadd, 1) := by decide +kernel
theorem dL_law_1033 : decode cL_law 1033 = .ok (.iaload, 1) := by decide +kernel
theorem dL_law_1034 : decode cL_law 1034 = .ok (.invokevirtual 132, 3) := by decide +kernel
theorem dL_law_1037 : decode cL_law 1037 = .ok (.if_icmp .eq 331, 3) := by decide +kernel
theorem dL_law_1040 : decode cL_law 1040 = .ok (.iconst 0, 1) := by decide +kernel
theorem dL_law_1041 : decode cL_law 1041 = .ok (.ireturn, 1) := by decide +kernel
theorem dL_law_1042 : decode cL_law 1042 = .ok (.aload_n 1, 1) := by decide +kernel
theorem dL_law_1043 : decode cL_law 1043 = .ok (.aload_n 0, 1) := by decide +kernel
theorem dL_law_1044 : decode cL_law 1044 = .ok (.iload_n 3, 1) := by decide +kernel
theorem dL_law_1045 : decode cL_law 1045 = .ok (.iconst 1, 1) := by decide +kernel
theorem dL_law_1046 : decode cL_law 1046 = .ok (.iadd, 1) := by decide +kernel
theorem dL_law_1047 : decode cL_law 1047 = .ok (.iaload, 1) := by decide +kernel
theorem dL_law_1048 : decode cL_law 1048 = .ok (.invokevirtual 133, 3) := by decide +kernel
theorem dL_law_1051 : decode cL_law 1051 = .ok (.aload_n 2, 1) := by decide +kernel
theorem dL_law_1052 : decode cL_law 1052 = .ok (.aload_n 0, 1) := by decide +kernel
theorem dL_law_1053 : decode cL_law 1053 = .ok (.iload_n 3, 1) := by decide +kernel
theorem dL_law_1054 : decode cL_law 1054 = .ok (.iconst 1, 1) := by decide +kernel
theorem dL_law_1055 : decode cL_law 1055 = .ok (.iadd, 1) := by decide +kernel
theorem dL_law_1056 : decode cL_law 1056 = .ok (.iaload, 1) := by decide +kernel
theorem dL_law_1057 : decode cL_law 1057 = .ok (.invokevirtual 136, 3) := by decide +kernel
theorem dL_law_1060 : decode cL_law 1060 = .ok (.if_icmp .eq 308, 3) := by decide +kernel
theorem dL_law_1063 : decode cL_law 1063 = .ok (.iconst 0, 1) := by decide +kernel
theorem dL_law_1064 : decode cL_law 1064 = .ok (.ireturn, 1) := by decide +kernel
theorem dL_law_1065 : decode cL_law 1065 = .ok (.aload_n 1, 1) := by decide +kernel
theorem dL_law_1066 : decode cL_law 1066 = .ok (.aload_n 0, 1) := by decide +kernel
theorem dL_law_1067 : decode cL_law 1067 = .ok (.iload_n 3, 1) := by decide +kernel
theorem dL_law_1068 : decode cL_law 1068 = .ok (.iconst 1, 1) := by decide +kernel
theorem dL_law_1069 : decode cL_law 1069 = .ok (.iadd, 1) := by decide +kernel
theorem dL_law_1070 : decode cL_law 1070 = .ok (.iaload, 1) := by decide +kernel
theorem dL_law_1071 : decode cL_law 1071 = .ok (.aload_n 0, 1) := by decide +kernel
theorem dL_law_1072 : decode cL_law 1072 = .ok (.iload_n 3, 1) := by decide +kernel
theorem dL_law_1073 : decode cL_law 1073 = .ok (.iconst 2, 1) := by decide +kernel
theorem dL_law_1074 : decode cL_law 1074 = .ok (.iadd, 1) := by decide +kernel
theorem dL_law_1075 : decode cL_law 1075 = .ok (.iaload, 1) := by decide +kernel
theorem dL_law_1076 : decode cL_law 1076 = .ok (.aload_n 0, 1) := by decide +kernel
theorem dL_law_1077 : decode cL_law 1077 = .ok (.iload_n 3, 1) := by decide +kernel
theorem dL_law_1078 : decode cL_law 1078 = .ok (.iconst 3, 1) := by decide +kernel
theorem dL_law_1079 : decode cL_law 1079 = .ok (.iadd, 1) := by decide +kernel
theorem dL_law_1080 : decode cL_law 1080 = .ok (.iaload, 1) := by decide +kernel
theorem dL_law_1081 : decode cL_law 1081 = .ok (.invokevirtual 137, 3) := by decide +kernel
theorem dL_law_1084 : decode cL_law 1084 = .ok (.aload_n 2, 1) := by decide +kernel
theorem dL_law_1085 : decode cL_law 1085 = .ok (.aload_n 0, 1) := by decide +kernel
theorem dL_law_1086 : decode cL_law 1086 = .ok (.iload_n 3, 1) := by decide +kernel
theorem dL_law_1087 : decode cL_law 1087 = .ok (.iconst 1, 1) := by decide +kernel
theorem dL_law_1088 : decode cL_law 1088 = .ok (.iadd, 1) := by decide +kernel
theorem dL_law_1089 : decode cL_law 1089 = .ok (.iaload, 1) := by decide +kernel
theorem dL_law_1090 : decode cL_law 1090 = .ok (.aload_n 0, 1) := by decide +kernel
theorem dL_law_1091 : decode cL_law 1091 = .ok (.iload_n 3, 1) := by decide +kernel
theorem dL_law_1092 : decode cL_law 1092 = .ok (.iconst 2, 1) := by decide +kernel
theorem dL_law_1093 : decode cL_law 1093 = .ok (.iadd, 1) := by decide +kernel
theorem dL_law_1094 : decode cL_law 1094 = .ok (.iaload, 1) := by decide +kernel
theorem dL_law_1095 : decode cL_law 1095 = .ok (.aload_n 0, 1) := by decide +kernel
theorem dL_law_1096 : decode cL_law 1096 = .ok (.iload_n 3, 1) := by decide +kernel
theorem dL_law_1097 : decode cL_law 1097 = .ok (.iconst 3, 1) := by decide +kernel
theorem dL_law_1098 : decode cL_law 1098 = .ok (.iadd, 1) := by decide +kernel
theorem dL_law_1099 : decode cL_law 1099 = .ok (.iaload, 1) := by decide +kernel
theorem dL_law_1100 : decode cL_law 1100 = .ok (.invokevirtual 140, 3) := by decide +kernel
theorem dL_law_1103 : decode cL_law 1103 = .ok (.if_icmp .eq 265, 3) := by decide +kernel
theorem dL_law_1106 : decode cL_law 1106 = .ok (.iconst 0, 1) := by decide +kernel
theorem dL_law_1107 : decode cL_law 1107 = .ok (.ireturn, 1) := by decide +kernel
theorem dL_law_1108 : decode cL_law 1108 = .ok (.aload_n 1, 1) := by decide +kernel
theorem dL_law_1109 : decode cL_law 1109 = .ok (.aload_n 0, 1) := by decide +kernel
theorem dL_law_1110 : decode cL_law 1110 = .ok (.iload_n 3, 1) := by decide +kernel
theorem dL_law_1111 : decode cL_law 1111 = .ok (.iconst 1, 1) := by decide +kernel
theorem dL_law_1112 : decode cL_law 1112 = .ok (.iadd, 1) := by decide +kernel
theorem dL_law_1113 : decode cL_law 1113 = .ok (.iaload, 1) := by decide +kernel
theorem dL_law_1114 : decode cL_law 1114 = .ok (.aload_n 0, 1) := by decide +kernel
theorem dL_law_1115 : decode cL_law 1115 = .ok (.iload_n 3, 1) := by decide +kernel
theorem dL_law_1116 : decode cL_law 1116 = .ok (.iconst 2, 1) := by decide +kernel
theorem dL_law_1117 : decode cL_law 1117 = .ok (.iadd, 1) := by decide +kernel
theorem dL_law_1118 : decode cL_law 1118 = .ok (.iaload, 1) := by decide +kernel
theorem dL_law_1119 : decode cL_law 1119 = .ok (.aload_n 0, 1) := by decide +kernel
theorem dL_law_1120 : decode cL_law 1120 = .ok (.iload_n 3, 1) := by decide +kernel
theorem dL_law_1121 : decode cL_law 1121 = .ok (.iconst 3, 1) := by decide +kernel
theorem dL_law_1122 : decode cL_law 1122 = .ok (.iadd, 1) := by decide +kernel
theorem dL_law_1123 : decode cL_law 1123 = .ok (.iaload, 1) := by decide +kernel
theorem dL_law_1124 : decode cL_law 1124 = .ok (.invokevirtual 141, 3) := by decide +kernel
theorem dL_law_1127 : decode cL_law 1127 = .ok (.aload_n 2, 1) := by decide +kernel
theorem dL_law_1128 : decode cL_law 1128 = .ok (.aload_n 0, 1) := by decide +kernel
theorem dL_law_1129 : decode cL_law 1129 = .ok (.iload_n 3, 1) := by decide +kernel
theorem dL_law_1130 : decode cL_law 1130 = .ok (.iconst 1, 1) := by decide +kernel
theorem dL_law_1131 : decode cL_law 1131 = .ok (.iadd, 1) := by decide +kernel
theorem dL_law_1132 : decode cL_law 1132 = .ok (.iaload, 1) := by decide +kernel
theorem dL_law_1133 : decode cL_law 1133 = .ok (.aload_n 0, 1) := by decide +kernel
theorem dL_law_1134 : decode cL_law 1134 = .ok (.iload_n 3, 1) := by decide +kernel
theorem dL_law_1135 : decode cL_law 1135 = .ok (.iconst 2, 1) := by decide +kernel
theorem dL_law_1136 : decode cL_law 1136 = .ok (.iadd, 1) := by decide +kernel
theorem dL_law_1137 : decode cL_law 1137 = .ok (.iaload, 1) := by decide +kernel
theorem dL_law_1138 : decode cL_law 1138 = .ok (.aload_n 0, 1) := by decide +kernel
theorem dL_law_1139 : decode cL_law 1139 = .ok (.iload_n 3, 1) := by decide +kernel
theorem dL_law_1140 : decode cL_law 1140 = .ok (.iconst 3, 1) := by decide +kernel
theorem dL_law_1141 : decode cL_law 1141 = .ok (.iadd, 1) := by decide +kernel
theorem dL_law_1142 : decode cL_law 1142 = .ok (.iaload, 1) := by decide +kernel
theorem dL_law_1143 : decode cL_law 1143 = .ok (.invokevirtual 144, 3) := by decide +kernel
theorem dL_law_1146 : decode cL_law 1146 = .ok (.if_icmp .eq 222, 3) := by decide +kernel
theorem dL_law_1149 : decode cL_law 1149 = .ok (.iconst 0, 1) := by decide +kernel
theorem dL_law_1150 : decode cL_law 1150 = .ok (.ireturn, 1) := by decide +kernel
theorem dL_law_1151 : decode cL_law 1151 = .ok (.aload_n 1, 1) := by decide +kernel
theorem dL_law_1152 : decode cL_law 1152 = .ok (.aload_n 0, 1) := by decide +kernel
theorem dL_law_1153 : decode cL_law 1153 = .ok (.iload_n 3, 1) := by decide +kernel
theorem dL_law_1154 : decode cL_law 1154 = .ok (.iconst 1, 1) := by decide +kernel
theorem dL_law_1155 : decode cL_law 1155 = .ok (.iadd, 1) := by decide +kernel
theorem dL_law_1156 : decode cL_law 1156 = .ok (.iaload, 1) := by decide +kernel
theorem dL_law_1157 : decode cL_law 1157 = .ok (.aload_n 0, 1) := by decide +kernel
theorem dL_law_1158 : decode cL_law 1158 = .ok (.iload_n 3, 1) := by decide +kernel
theorem dL_law_1159 : decode cL_law 1159 = .ok (.iconst 2, 1) := by decide +kernel
theorem dL_law_1160 : decode cL_law 1160 = .ok (.iadd, 1) := by decide +kernel
theorem dL_law_1161 : decode cL_law 1161 = .ok (.iaload, 1) := by decide +kernel
theorem dL_law_1162 : decode cL_law 1162 = .ok (.aload_n 0, 1) := by decide +kernel
theorem dL_law_1163 : decode cL_law 1163 = .ok (.iload_n 3, 1) := by decide +kernel
theorem dL_law_1164 : decode cL_law 1164 = .ok (.iconst 3, 1) := by decide +kernel
theorem dL_law_1165 : decode cL_law 1165 = .ok (.iadd, 1) := by decide +kernel
theorem dL_law_1166 : decode cL_law 1166 = .ok (.iaload, 1) := by decide +kernel
theorem dL_law_1167 : decode cL_law 1167 = .ok (.aload_n 0, 1) := by decide +kernel
theorem dL_law_1168 : decode cL_law 1168 = .ok (.iload_n 3, 1) := by decide +kernel
theorem dL_law_1169 : decode cL_law 1169 = .ok (.iconst 4, 1) := by decide +kernel
theorem dL_law_1170 : decode cL_law 1170 = .ok (.iadd, 1) := by decide +kernel
theorem dL_law_1171 : decode cL_law 1171 = .ok (.iaload, 1) := by decide +kernel
theorem dL_law_1172 : decode cL_law 1172 = .ok (.aload_n 0, 1) := by decide +kernel
theorem dL_law_1173 : decode cL_law 1173 = .ok (.iload_n 3, 1) := by decide +kernel
theorem dL_law_1174 : decode cL_law 1174 = .ok (.iconst 5, 1) := by decide +kernel
theorem dL_law_1175 : decode cL_law 1175 = .ok (.iadd, 1) := by decide +kernel
theorem dL_law_1176 : decode cL_law 1176 = .ok (.iaload, 1) := by decide +kernel
theorem dL_law_1177 : decode cL_law 1177 = .ok (.invokevirtual 145, 3) := by decide +kernel
theorem dL_law_1180 : decode cL_law 1180 = .ok (.aload_n 2, 1) := by decide +kernel
theorem dL_law_1181 : decode cL_law 1181 = .ok (.aload_n 0, 1) := by decide +kernel
theorem dL_law_1182 : decode cL_law 1182 = .ok (.iload_n 3, 1) := by decide +kernel
theorem dL_law_1183 : decode cL_law 1183 = .ok (.iconst 1, 1) := by decide +kernel
theorem dL_law_1184 : decode cL_law 1184 = .ok (.iadd, 1) := by decide +kernel
theorem dL_law_1185 : decode cL_law 1185 = .ok (.iaload, 1) := by decide +kernel
theorem dL_law_1186 : decode cL_law 1186 = .ok (.aload_n 0, 1) := by decide +kernel
theorem dL_law_1187 : decode cL_law 1187 = .ok (.iload_n 3, 1) := by decide +kernel
theorem dL_law_1188 : decode cL_law 1188 = .ok (.iconst 2, 1) := by decide +kernel
theorem dL_law_1189 : decode cL_law 1189 = .ok (.iadd, 1) := by decide +kernel
theorem dL_law_1190 : decode cL_law 1190 = .ok (.iaload, 1) := by decide +kernel
theorem dL_law_1191 : decode cL_law 1191 = .ok (.aload_n 0, 1) := by decide +kernel
theorem dL_law_1192 : decode cL_law 1192 = .ok (.iload_n 3, 1) := by decide +kernel
theorem dL_law_1193 : decode cL_law 1193 = .ok (.iconst 3, 1) := by decide +kernel
theorem dL_law_1194 : decode cL_law 1194 = .ok (.iadd, 1) := by decide +kernel
theorem dL_law_1195 : decode cL_law 1195 = .ok (.iaload, 1) := by decide +kernel
theorem dL_law_1196 : decode cL_law 1196 = .ok (.aload_n 0, 1) := by decide +kernel
theorem dL_law_1197 : decode cL_law 1197 = .ok (.iload_n 3, 1) := by decide +kernel
theorem dL_law_1198 : decode cL_law 1198 = .ok (.iconst 4, 1) := by decide +kernel
theorem dL_law_1199 : decode cL_law 1199 = .ok (.iadd, 1) := by decide +kernel
theorem dL_law_1200 : decode cL_law 1200 = .ok (.iaload, 1) := by decide +kernel
theorem dL_law_1201 : decode cL_law 1201 = .ok (.aload_n 0, 1) := by decide +kernel
theorem dL_law_1202 : decode cL_law 1202 = .ok (.iload_n 3, 1) := by decide +kernel
theorem dL_law_1203 : decode cL_law 1203 = .ok (.iconst 5, 1) := by decide +kernel
theorem dL_law_1204 : decode cL_law 1204 = .ok (.iadd, 1) := by decide +kernel
theorem dL_law_1205 : decode cL_law 1205 = .ok (.iaload, 1) := by decide +kernel
theorem dL_law_1206 : decode cL_law 1206 = .ok (.invokevirtual 149, 3) := by decide +kernel
theorem dL_law_1209 : decode cL_law 1209 = .ok (.if_icmp .eq 159, 3) := by decide +kernel
theorem dL_law_1212 : decode cL_law 1212 = .ok (.iconst 0, 1) := by decide +kernel
theorem dL_law_1213 : decode cL_law 1213 = .ok (.ireturn, 1) := by decide +kernel
theorem dL_law_1214 : decode cL_law 1214 = .ok (.aload_n 1, 1) := by decide +kernel
theorem dL_law_1215 : decode cL_law 1215 = .ok (.aload_n 0, 1) := by decide +kernel
theorem dL_law_1216 : decode cL_law 1216 = .ok (.iload_n 3, 1) := by decide +kernel
theorem dL_law_1217 : decode cL_law 1217 = .ok (.iconst 1, 1) := by decide +kernel
theorem dL_law_1218 : decode cL_law 1218 = .ok (.iadd, 1) := by decide +kernel
theorem dL_law_1219 : decode cL_law 1219 = .ok (.iaload, 1) := by decide +kernel
theorem dL_law_1220 : decode cL_law 1220 = .ok (.invokevirtual 150, 3) := by decide +kernel
theorem dL_law_1223 : decode cL_law 1223 = .ok (.aload_n 2, 1) := by decide +kernel
theorem dL_law_1224 : decode cL_law 1224 = .ok (.aload_n 0, 1) := by decide +kernel
theorem dL_law_1225 : decode cL_law 1225 = .ok (.iload_n 3, 1) := by decide +kernel
theorem dL_law_1226 : decode cL_law 1226 = .ok (.iconst 1, 1) := by decide +kernel
theorem dL_law_1227 : decode cL_law 1227 = .ok (.iadd, 1) := by decide +kernel
theorem dL_law_1228 : decode cL_law 1228 = .ok (.iaload, 1) := by decide +kernel
theorem dL_law_1229 : decode cL_law 1229 = .ok (.invokevirtual 153, 3) := by decide +kernel
theorem dL_law_1232 : decode cL_law 1232 = .ok (.if_icmp .eq 136, 3) := by decide +kernel
theorem dL_law_1235 : decode cL_law 1235 = .ok (.iconst 0, 1) := by decide +kernel
theorem dL_law_1236 : decode cL_law 1236 = .ok (.ireturn, 1) := by decide +kernel
theorem dL_law_1237 : decode cL_law 1237 = .ok (.aload_n 1, 1) := by decide +kernel
theorem dL_law_1238 : decode cL_law 1238 = .ok (.aload_n 0, 1) := by decide +kernel
theorem dL_law_1239 : decode cL_law 1239 = .ok (.iload_n 3, 1) := by decide +kernel
theorem dL_law_1240 : decode cL_law 1240 = .ok (.iconst 1, 1) := by decide +kernel
theorem dL_law_1241 : decode cL_law 1241 = .ok (.iadd, 1) := by decide +kernel
theorem dL_law_1242 : decode cL_law 1242 = .ok (.iaload, 1) := by decide +kernel
theorem dL_law_1243 : decode cL_law 1243 = .ok (.invokevirtual 154, 3) := by decide +kernel
theorem dL_law_1246 : decode cL_law 1246 = .ok (.aload_n 2, 1) := by decide +kernel
theorem dL_law_1247 : decode cL_law 1247 = .ok (.aload_n 0, 1) := by decide +kernel
theorem dL_law_1248 : decode cL_law 1248 = .ok (.iload_n 3, 1) := by decide +kernel
theorem dL_law_1249 : decode cL_law 1249 = .ok (.iconst 1, 1) := by decide +kernel
theorem dL_law_1250 : decode cL_law 1250 = .ok (.iadd, 1) := by decide +kernel
theorem dL_law_1251 : decode cL_law 1251 = .ok (.iaload, 1) := by decide +kernel
theorem dL_law_1252 : decode cL_law 1252 = .ok (.invokevirtual 157, 3) := by decide +kernel
theorem dL_law_1255 : decode cL_law 1255 = .ok (.if_icmp .eq 113, 3) := by decide +kernel
theorem dL_law_1258 : decode cL_law 1258 = .ok (.iconst 0, 1) := by decide +kernel
theorem dL_law_1259 : decode cL_law 1259 = .ok (.ireturn, 1) := by decide +kernel
theorem dL_law_1260 : decode cL_law 1260 = .ok (.aload_n 1, 1) := by decide +kernel
theorem dL_law_1261 : decode cL_law 1261 = .ok (.invokevirtual 158, 3) := by decide +kernel
theorem dL_law_1264 : decode cL_law 1264 = .ok (.aload_n 2, 1) := by decide +kernel
theorem dL_law_1265 : decode cL_law 1265 = .ok (.invokevirtual 161, 3) := by decide +kernel
theorem dL_law_1268 : decode cL_law 1268 = .ok (.if_icmp .eq 100, 3) := by decide +kernel
theorem dL_law_1271 : decode cL_law 1271 = .ok (.iconst 0, 1) := by decide +kernel
theorem dL_law_1272 : decode cL_law 1272 = .ok (.ireturn, 1) := by decide +kernel
theorem dL_law_1273 : decode cL_law 1273 = .ok (.aload_n 1, 1) := by decide +kernel
theorem dL_law_1274 : decode cL_law 1274 = .ok (.invokevirtual 162, 3) := by decide +kernel
theorem dL_law_1277 : decode cL_law 1277 = .ok (.aload_n 2, 1) := by decide +kernel
theorem dL_law_1278 : decode cL_law 1278 = .ok (.invokevirtual 165, 3) := by decide +kernel
theorem dL_law_1281 : decode cL_law 1281 = .ok (.if_icmp .eq 87, 3) := by decide +kernel
theorem dL_law_1284 : decode cL_law 1284 = .ok (.iconst 0, 1) := by decide +kernel
theorem dL_law_1285 : decode cL_law 1285 = .ok (.ireturn, 1) := by decide +kernel
theorem dL_law_1286 : decode cL_law 1286 = .ok (.aload_n 1, 1) := by decide +kernel
theorem dL_law_1287 : decode cL_law 1287 = .ok (.aload_n 0, 1) := by decide +kernel
theorem dL_law_1288 : decode cL_law 1288 = .ok (.iload_n 3, 1) := by decide +kernel
theorem dL_law_1289 : decode cL_law 1289 = .ok (.iconst 1, 1) := by decide +kernel
theorem dL_law_1290 : decode cL_law 1290 = .ok (.iadd, 1) := by decide +kernel
theorem dL_law_1291 : decode cL_law 1291 = .ok (.iaload, 1) := by decide +kernel
theorem dL_law_1292 : decode cL_law 1292 = .ok (.invokevirtual 166, 3) := by decide +kernel
theorem dL_law_1295 : decode cL_law 1295 = .ok (.aload_n 2, 1) := by decide +kernel
theorem dL_law_1296 : decode cL_law 1296 = .ok (.aload_n 0, 1) := by decide +kernel
theorem dL_law_1297 : decode cL_law 1297 = .ok (.iload_n 3, 1) := by decide +kernel
theorem dL_law_1298 : decode cL_law 1298 = .ok (.iconst 1, 1) := by decide +kernel
theorem dL_law_1299 : decode cL_law 1299 = .ok (.iadd, 1) := by decide +kernel
theorem dL_law_1300 : decode cL_law 1300 = .ok (.iaload, 1) := by decide +kernel
theorem dL_law_1301 : decode cL_law 1301 = .ok (.invokevirtual 169, 3) := by decide +kernel
theorem dL_law_1304 : decode cL_law 1304 = .ok (.if_icmp .eq 64, 3) := by decide +kernel
theorem dL_law_1307 : decode cL_law 1307 = .ok (.iconst 0, 1) := by decide +kernel
theorem dL_law_1308 : decode cL_law 1308 = .ok (.ireturn, 1) := by decide +kernel
theorem dL_law_1309 : decode cL_law 1309 = .ok (.aload_n 1, 1) := by decide +kernel
theorem dL_law_1310 : decode cL_law 1310 = .ok (.invokevirtual 170, 3) := by decide +kernel
theorem dL_law_1313 : decode cL_law 1313 = .ok (.aload_n 2, 1) := by decide +kernel
theorem dL_law_1314 : decode cL_law 1314 = .ok (.invokevirtual 173, 3) := by decide +kernel
theorem dL_law_1317 : decode cL_law 1317 = .ok (.if_icmp .eq 51, 3) := by decide +kernel
theorem dL_law_1320 : decode cL_law 1320 = .ok (.iconst 0, 1) := by decide +kernel
theorem dL_law_1321 : decode cL_law 1321 = .ok (.ireturn, 1) := by decide +kernel
theorem dL_law_1322 : decode cL_law 1322 = .ok (.aload_n 1, 1) := by decide +kernel
theorem dL_law_1323 : decode cL_law 1323 = .ok (.aload_n 0, 1) := by decide +kernel
theorem dL_law_1324 : decode cL_law 1324 = .ok (.iload_n 3, 1) := by decide +kernel
theorem dL_law_1325 : decode cL_law 1325 = .ok (.iconst 1, 1) := by decide +kernel
theorem dL_law_1326 : decode cL_law 1326 = .ok (.iadd, 1) := by decide +kernel
theorem dL_law_1327 : decode cL_law 1327 = .ok (.iaload, 1) := by decide +kernel
theorem dL_law_1328 : decode cL_law 1328 = .ok (.invokevirtual 174, 3) := by decide +kernel
theorem dL_law_1331 : decode cL_law 1331 = .ok (.aload_n 2, 1) := by decide +kernel
theorem dL_law_1332 : decode cL_law 1332 = .ok (.aload_n 0, 1) := by decide +kernel
theorem dL_law_1333 : decode cL_law 1333 = .ok (.iload_n 3, 1) := by decide +kernel
theorem dL_law_1334 : decode cL_law 1334 = .ok (.iconst 1, 1) := by decide +kernel
theorem dL_law_1335 : decode cL_law 1335 = .ok (.iadd, 1) := by decide +kernel
theorem dL_law_1336 : decode cL_law 1336 = .ok (.iaload, 1) := by decide +kernel
theorem dL_law_1337 : decode cL_law 1337 = .ok (.invokevirtual 177, 3) := by decide +kernel
theorem dL_law_1340 : decode cL_law 1340 = .ok (.if_icmp .eq 28, 3) := by decide +kernel
theorem dL_law_1343 : decode cL_law 1343 = .ok (.iconst 0, 1) := by decide +kernel
theorem dL_law_1344 : decode cL_law 1344 = .ok (.ireturn, 1) := by decide +kernel
theorem dL_law_1345 : decode cL_law 1345 = .ok (.aload_n 1, 1) := by decide +kernel
theorem dL_law_1346 : decode cL_law 1346 = .ok (.aload_n 0, 1) := by decide +kernel
theorem dL_law_1347 : decode cL_law 1347 = .ok (.iload_n 3, 1) := by decide +kernel
theorem dL_law_1348 : decode cL_law 1348 = .ok (.iconst 1, 1) := by decide +kernel
theorem dL_law_1349 : decode cL_law 1349 = .ok (.iadd, 1) := by decide +kernel
theorem dL_law_1350 : decode cL_law 1350 = .ok (.iaload, 1) := by decide +kernel
theorem dL_law_1351 : decode cL_law 1351 = .ok (.invokevirtual 178, 3) := by decide +kernel
theorem dL_law_1354 : decode cL_law 1354 = .ok (.aload_n 2, 1) := by decide +kernel
theorem dL_law_1355 : decode cL_law 1355 = .ok (.aload_n 0, 1) := by decide +kernel
theorem dL_law_1356 : decode cL_law 1356 = .ok (.iload_n 3, 1) := by decide +kernel
theorem dL_law_1357 : decode cL_law 1357 = .ok (.iconst 1, 1) := by decide +kernel
theorem dL_law_1358 : decode cL_law 1358 = .ok (.iadd, 1) := by decide +kernel
theorem dL_law_1359 : decode cL_law 1359 = .ok (.iaload, 1) := by decide +kernel
theorem dL_law_1360 : decode cL_law 1360 = .ok (.invokevirtual 181, 3) := by decide +kernel
theorem dL_law_1363 : decode cL_law 1363 = .ok (.if_icmp .eq 5, 3) := by decide +kernel
theorem dL_law_1366 : decode cL_law 1366 = .ok (.iconst 0, 1) := by decide +kernel
theorem dL_law_1367 : decode cL_law 1367 = .ok (.ireturn, 1) := by decide +kernel
theorem dL_law_1368 : decode cL_law 1368 = .ok (.iinc 3 6, 3) := by decide +kernel
theorem dL_law_1371 : decode cL_law 1371 = .ok (.goto (-1353), 3) := by decide +kernel
theorem dL_law_1374 : decode cL_law 1374 = .ok (.iconst 1, 1) := by decide +kernel
theorem dL_law_1375 : decode cL_law 1375 = .ok (.ireturn, 1) := by decide +kernel
end

theorem u0_0 : jWd (u_lay RX0 TX0 0) := jWd_t1 (i := 122) rfl rfl
theorem u0_1 : jWd (u_lay RX0 TX0 1) := jWd_t1 (i := 124) rfl rfl
theorem u0_2 : jWd (u_lay RX0 TX0 2) := jWd_t1 (i := 126) rfl rfl
theorem u0_3 : jWd (u_lay RX0 TX0 3) := jWd_t1 (i := 128) rfl rfl
theorem u0_4 : jWd (u_lay RX0 TX0 4) := jWd_t1 (i := 130) rfl rfl
theorem u0_5 : jWd (u_lay RX0 TX0 5) := jWd_t1 (i := 132) rfl rfl
theorem u0_6 : jWd (u_lay RX0 TX0 6) := jWd_t1 (i := 134) rfl rfl
theorem u0_7 : jWd (u_lay RX0 TX0 7) := jWd_t1 (i := 136) rfl rfl
theorem u0_8 : jWd (u_lay RX0 TX0 8) := jWd_t1 (i := 138) rfl rfl
theorem jcl_X0 : jCl 0 RX0 TX0 9 tyX0 := ⟨rfl, (List.forall_mem_cons.mpr ⟨u0_0, (List.forall_mem_cons.mpr ⟨u0_1, (List.forall_mem_cons.mpr ⟨u0_2, (List.forall_mem_cons.mpr ⟨u0_3, (List.forall_mem_cons.mpr ⟨u0_4, (List.forall_mem_cons.mpr ⟨u0_5, (List.forall_mem_cons.mpr ⟨u0_6, (List.forall_mem_cons.mpr ⟨u0_7, (List.forall_mem_cons.mpr ⟨u0_8, (fun _ h => absurd h List.not_mem_nil)⟩)⟩)⟩)⟩)⟩)⟩)⟩)⟩)⟩), tyX0_ok, nmX0⟩
theorem u1_0 : jWd (u_lay RX1 TX1 0) := jWd_t1 (i := 67) rfl rfl
theorem u1_1 : jWd (u_lay RX1 TX1 1) := jWd_t1 (i := 69) rfl rfl
theorem u1_2 : jWd (u_lay RX1 TX1 2) := jWd_t1 (i := 71) rfl rfl
theorem jcl_X1 : jCl 1 RX1 TX1 3 tyX1 := ⟨rfl, (List.forall_mem_cons.mpr ⟨u1_0, (List.forall_mem_cons.mpr ⟨u1_1, (List.forall_mem_cons.mpr ⟨u1_2, (fun _ h => absurd h List.not_mem_nil)⟩)⟩)⟩), tyX1_ok, nmX1⟩
theorem u2_0 : jWd (u_lay RX2 TX2 0) := jWd_t1 (i := 154) rfl rfl
theorem u2_1 : jWd (u_lay RX2 TX2 1) := jWd_t1 (i := 156) rfl rfl
theorem u2_2 : jWd (u_lay RX2 TX2 2) := jWd_t1 (i := 158) rfl rfl
theorem u2_3 : jWd (u_lay RX2 TX2 3) := jWd_t1 (i := 160) rfl rfl
theorem jcl_X2 : jCl 2 RX2 TX2 4 tyX2 := ⟨rfl, (List.forall_mem_cons.mpr ⟨u2_0, (List.forall_mem_cons.mpr ⟨u2_1, (List.forall_mem_cons.mpr ⟨u2_2, (List.forall_mem_cons.mpr ⟨u2_3, (fun _ h => absurd h List.not_mem_nil)⟩)⟩)⟩)⟩), tyX2_ok, nmX2⟩
theorem u3_0 : jWd (u_lay RX3 TX3 0) := jWd_t1 (i := 49) rfl rfl
theorem u3_1 : jWd (u_lay RX3 TX3 1) := jWd_t1 (i := 51) rfl rfl
theorem jcl_X3 : jCl 3 RX3 TX3 2 tyX3 := ⟨rfl, (List.forall_mem_cons.mpr ⟨u3_0, (List.forall_mem_cons.mpr ⟨u3_1, (fun _ h => absurd h List.not_mem_nil)⟩)⟩), tyX3_ok, nmX3⟩
theorem u4_0 : jWd (u_lay RX4 TX4 0) := jWd_t1 (i := 211) rfl rfl
theorem u4_1 : jWd (u_lay RX4 TX4 1) := jWd_t1 (i := 213) rfl rfl
theorem jcl_X4 : jCl 4 RX4 TX4 2 tyX4 := ⟨rfl, (List.forall_mem_cons.mpr ⟨u4_0, (List.forall_mem_cons.mpr ⟨u4_1, (fun _ h => absurd h List.not_mem_nil)⟩)⟩), tyX4_ok, nmX4⟩
theorem u5_0 : jWd (u_lay RX5 TX5 0) := jWd_t1 (i := 176) rfl rfl
theorem u5_1 : jWd (u_lay RX5 TX5 1) := jWd_t1 (i := 178) rfl rfl
theorem u5_2 : jWd (u_lay RX5 TX5 2) := jWd_t1 (i := 180) rfl rfl
theorem u5_3 : jWd (u_lay RX5 TX5 3) := jWd_t1 (i := 182) rfl rfl
theorem jcl_X5 : jCl 5 RX5 TX5 4 tyX5 := ⟨rfl, (List.forall_mem_cons.mpr ⟨u5_0, (List.forall_mem_cons.mpr ⟨u5_1, (List.forall_mem_cons.mpr ⟨u5_2, (List.forall_mem_cons.mpr ⟨u5_3, (fun _ h => absurd h List.not_mem_nil)⟩)⟩)⟩)⟩), tyX5_ok, nmX5⟩
theorem u6_0 : jWd (u_lay RX6 TX6 0) := jWd_t1 (i := 96) rfl rfl
theorem u6_1 : jWd (u_lay RX6 TX6 1) := jWd_t1 (i := 98) rfl rfl
theorem u6_2 : jWd (u_lay RX6 TX6 2) := jWd_t1 (i := 100) rfl rfl
theorem u6_3 : jWd (u_lay RX6 TX6 3) := jWd_t1 (i := 102) rfl rfl
theorem u6_4 : jWd (u_lay RX6 TX6 4) := jWd_t1 (i := 104) rfl rfl
theorem jcl_X6 : jCl 6 RX6 TX6 5 tyX6 := ⟨rfl, (List.forall_mem_cons.mpr ⟨u6_0, (List.forall_mem_cons.mpr ⟨u6_1, (List.forall_mem_cons.mpr ⟨u6_2, (List.forall_mem_cons.mpr ⟨u6_3, (List.forall_mem_cons.mpr ⟨u6_4, (fun _ h => absurd h List.not_mem_nil)⟩)⟩)⟩)⟩)⟩), tyX6_ok, nmX6⟩
theorem u7_0 : jWd (u_lay RX7 TX7 0) := jWd_t1 (i := 195) rfl rfl
theorem jcl_X7 : jCl 7 RX7 TX7 1 tyX7 := ⟨rfl, (List.forall_mem_cons.mpr ⟨u7_0, (fun _ h => absurd h List.not_mem_nil)⟩), tyX7_ok, nmX7⟩
theorem u8_0 : jWd (u_lay RX8 TX8 0) := jWd_t1 (i := 225) rfl rfl
theorem u8_1 : jWd (u_lay RX8 TX8 1) := jWd_t1 (i := 227) rfl rfl
theorem u8_2 : jWd (u_lay RX8 TX8 2) := jWd_t1 (i := 229) rfl rfl
theorem u8_3 : jWd (u_lay RX8 TX8 3) := jWd_t1 (i := 231) rfl rfl
theorem u8_4 : jWd (u_lay RX8 TX8 4) := jWd_t1 (i := 233) rfl rfl
theorem u8_5 : jWd (u_lay RX8 TX8 5) := jWd_t1 (i := 235) rfl rfl
theorem u8_6 : jWd (u_lay RX8 TX8 6) := jWd_t1 (i := 237) rfl rfl
theorem u8_7 : jWd (u_lay RX8 TX8 7) := jWd_t1 (i := 239) rfl rfl
theorem u8_8 : jWd (u_lay RX8 TX8 8) := jWd_t2 (i := 1) rfl rfl
theorem jcl_X8 : jCl 8 RX8 TX8 9 tyX8 := ⟨rfl, (List.forall_mem_cons.mpr ⟨u8_0, (List.forall_mem_cons.mpr ⟨u8_1, (List.forall_mem_cons.mpr ⟨u8_2, (List.forall_mem_cons.mpr ⟨u8_3, (List.forall_mem_cons.mpr ⟨u8_4, (List.forall_mem_cons.mpr ⟨u8_5, (List.forall_mem_cons.mpr ⟨u8_6, (List.forall_mem_cons.mpr ⟨u8_7, (List.forall_mem_cons.mpr ⟨u8_8, (fun _ h => absurd h List.not_mem_nil)⟩)⟩)⟩)⟩)⟩)⟩)⟩)⟩)⟩), tyX8_ok, nmX8⟩
theorem u9_0 : jWd (u_lay RX9 TX9 0) := jWd_t4 (i := 34) rfl rfl
theorem u9_1 : jWd (u_lay RX9 TX9 1) := jWd_t4 (i := 36) rfl rfl
theorem u9_2 : jWd (u_lay RX9 TX9 2) := jWd_t4 (i := 38) rfl rfl
theorem u9_3 : jWd (u_lay RX9 TX9 3) := jWd_t4 (i := 40) rfl rfl
theorem u9_4 : jWd (u_lay RX9 TX9 4) := jWd_t4 (i := 42) rfl rfl
theorem u9_5 : jWd (u_lay RX9 TX9 5) := jWd_t4 (i := 44) rfl rfl
theorem u9_6 : jWd (u_lay RX9 TX9 6) := jWd_t4 (i := 46) rfl rfl
theorem u9_7 : jWd (u_lay RX9 TX9 7) := jWd_t4 (i := 48) rfl rfl
theorem u9_8 : jWd (u_lay RX9 TX9 8) := jWd_t4 (i := 50) rfl rfl
theorem u9_9 : jWd (u_lay RX9 TX9 9) := jWd_t4 (i := 52) rfl rfl
theorem u9_10 : jWd (u_lay RX9 TX9 10) := jWd_t4 (i := 54) rfl rfl
theorem u9_11 : jWd (u_lay RX9 TX9 11) := jWd_t4 (i := 56) rfl rfl
theorem u9_12 : jWd (u_lay RX9 TX9 12) := jWd_t4 (i := 58) rfl rfl
theorem u9_13 : jWd (u_lay RX9 TX9 13) := jWd_t4 (i := 60) rfl rfl
theorem u9_14 : jWd (u_lay RX9 TX9 14) := jWd_t4 (i := 62) rfl rfl
theorem u9_15 : jWd (u_lay RX9 TX9 15) := jWd_t4 (i := 64) rfl rfl
theorem u9_16 : jWd (u_lay RX9 TX9 16) := jWd_t4 (i := 66) rfl rfl
theorem u9_17 : jWd (u_lay RX9 TX9 17) := jWd_t4 (i := 68) rfl rfl
theorem u9_18 : jWd (u_lay RX9 TX9 18) := jWd_t4 (i := 70) rfl rfl
theorem u9_19 : jWd (u_lay RX9 TX9 19) := jWd_t4 (i := 72) rfl rfl
theorem u9_20 : jWd (u_lay RX9 TX9 20) := jWd_t4 (i := 74) rfl rfl
theorem u9_21 : jWd (u_lay RX9 TX9 21) := jWd_t4 (i := 76) rfl rfl
theorem u9_22 : jWd (u_lay RX9 TX9 22) := jWd_t4 (i := 78) rfl rfl
theorem u9_23 : jWd (u_lay RX9 TX9 23) := jWd_t4 (i := 80) rfl rfl
theorem u9_24 : jWd (u_lay RX9 TX9 24) := jWd_t4 (i := 82) rfl rfl
theorem u9_25 : jWd (u_lay RX9 TX9 25) := jWd_t4 (i := 84) rfl rfl
theorem jcl_X9 : jCl 9 RX9 TX9 26 tyX9 := ⟨rfl, (List.forall_mem_cons.mpr ⟨u9_0, (List.forall_mem_cons.mpr ⟨u9_1, (List.forall_mem_cons.mpr ⟨u9_2, (List.forall_mem_cons.mpr ⟨u9_3, (List.forall_mem_cons.mpr ⟨u9_4, (List.forall_mem_cons.mpr ⟨u9_5, (List.forall_mem_cons.mpr ⟨u9_6, (List.forall_mem_cons.mpr ⟨u9_7, (List.forall_mem_cons.mpr ⟨u9_8, (List.forall_mem_cons.mpr ⟨u9_9, (List.forall_mem_cons.mpr ⟨u9_10, (List.forall_mem_cons.mpr ⟨u9_11, (List.forall_mem_cons.mpr ⟨u9_12, (List.forall_mem_cons.mpr ⟨u9_13, (List.forall_mem_cons.mpr ⟨u9_14, (List.forall_mem_cons.mpr ⟨u9_15, (List.forall_mem_cons.mpr ⟨u9_16, (List.forall_mem_cons.mpr ⟨u9_17, (List.forall_mem_cons.mpr ⟨u9_18, (List.forall_mem_cons.mpr ⟨u9_19, (List.forall_mem_cons.mpr ⟨u9_20, (List.forall_mem_cons.mpr ⟨u9_21, (List.forall_mem_cons.mpr ⟨u9_22, (List.forall_mem_cons.mpr ⟨u9_23, (List.forall_mem_cons.mpr ⟨u9_24, (List.forall_mem_cons.mpr ⟨u9_25, (fun _ h => absurd h List.not_mem_nil)⟩)⟩)⟩)⟩)⟩)⟩)⟩)⟩)⟩)⟩)⟩)⟩)⟩)⟩)⟩)⟩)⟩)⟩)⟩)⟩)⟩)⟩)⟩)⟩)⟩)⟩), tyX9_ok, nmX9⟩
theorem hci_X0 : ∃ (T : u_T) (N : Nat), vwCl[0]? = some (RX0, T, N) := ⟨_, _, rfl⟩
theorem hci_X1 : ∃ (T : u_T) (N : Nat), vwCl[1]? = some (RX1, T, N) := ⟨_, _, rfl⟩
theorem hci_X2 : ∃ (T : u_T) (N : Nat), vwCl[2]? = some (RX2, T, N) := ⟨_, _, rfl⟩
theorem hci_X3 : ∃ (T : u_T) (N : Nat), vwCl[3]? = some (RX3, T, N) := ⟨_, _, rfl⟩
theorem hci_X4 : ∃ (T : u_T) (N : Nat), vwCl[4]? = some (RX4, T, N) := ⟨_, _, rfl⟩
theorem hci_X5 : ∃ (T : u_T) (N : Nat), vwCl[5]? = some (RX5, T, N) := ⟨_, _, rfl⟩
theorem hci_X6 : ∃ (T : u_T) (N : Nat), vwCl[6]? = some (RX6, T, N) := ⟨_, _, rfl⟩
theorem hci_X7 : ∃ (T : u_T) (N : Nat), vwCl[7]? = some (RX7, T, N) := ⟨_, _, rfl⟩
theorem hci_X8 : ∃ (T : u_T) (N : Nat), vwCl[8]? = some (RX8, T, N) := ⟨_, _, rfl⟩
theorem hci_X9 : ∃ (T : u_T) (N : Nat), vwCl[9]? = some (RX9, T, N) := ⟨_, _, rfl⟩
theorem wX0_50 : jFd "MoonRooms$House" 50 0 3 (.int) false := ⟨RX0, TX0, 9, tyX0, jcl_X0, by decide, ⟨rfl, rfl⟩, (Or.inl (jWd_t1 (i := 113) rfl rfl))⟩
theorem wX0_17 : jFd "MoonRooms$House" 17 0 4 (.array (.object "MoonRooms$Tenant")) true := ⟨RX0, TX0, 9, tyX0, jcl_X0, by decide, ⟨rfl, rfl⟩, (Or.inl (jWd_t1 (i := 115) rfl rfl))⟩
abbrev m0_find : JM := (yX0_find, cX0_find, 2, some (.object "MoonRooms$Tenant"), RX0)
theorem sm0_find : jMs m0_find 1 := ⟨jWd_t2 (i := 62) rfl rfl, jWd_t1 (i := 2) rfl rfl, by decide +kernel, by decide, rfl⟩
theorem sm0_find_w : jWd (.instanceMethod m0_find.1) ∧ jWd (.selects m0_find.1.cls m0_find.1 m0_find.1) := ⟨jWd_t2 (i := 60) rfl rfl, jWd_t2 (i := 61) rfl rfl⟩
theorem wX6_9 : jFd "MoonRooms$Tenant" 9 6 0 (.int) false := ⟨RX6, TX6, 5, tyX6, jcl_X6, by decide, ⟨rfl, rfl⟩, (Or.inl (jWd_t1 (i := 79) rfl rfl))⟩
theorem wX6_15 : jFd "MoonRooms$Tenant" 15 6 1 (.int) false := ⟨RX6, TX6, 5, tyX6, jcl_X6, by decide, ⟨rfl, rfl⟩, (Or.inl (jWd_t1 (i := 83) rfl rfl))⟩
theorem wX6_18 : jFd "MoonRooms$Tenant" 18 6 2 (.int) false := ⟨RX6, TX6, 5, tyX6, jcl_X6, by decide, ⟨rfl, rfl⟩, (Or.inl (jWd_t1 (i := 87) rfl rfl))⟩
theorem wX6_21 : jFd "MoonRooms$Tenant" 21 6 3 (.int) false := ⟨RX6, TX6, 5, tyX6, jcl_X6, by decide, ⟨rfl, rfl⟩, (Or.inl (jWd_t1 (i := 90) rfl rfl))⟩
theorem wX6_24 : jFd "MoonRooms$Tenant" 24 6 4 (.boolean) false := ⟨RX6, TX6, 5, tyX6, jcl_X6, by decide, ⟨rfl, rfl⟩, (Or.inl (jWd_t1 (i := 93) rfl rfl))⟩
abbrev m6_copyFrom : JM := (yX6_copyFrom, cX6_copyFrom, 2, none, RX6)
theorem sm6_copyFrom : jMs m6_copyFrom 1 := ⟨jWd_t3 (i := 55) rfl rfl, jWd_t1 (i := 6) rfl rfl, by decide +kernel, by decide, rfl⟩
theorem sm6_copyFrom_w : jWd (.instanceMethod m6_copyFrom.1) ∧ jWd (.selects m6_copyFrom.1.cls m6_copyFrom.1 m6_copyFrom.1) := ⟨jWd_t3 (i := 53) rfl rfl, jWd_t3 (i := 54) rfl rfl⟩
theorem wX3_19 : jFd "MoonRooms$Row" 19 3 1 (.int) false := ⟨RX3, TX3, 2, tyX3, jcl_X3, by decide, ⟨rfl, rfl⟩, (Or.inl (jWd_t1 (i := 45) rfl rfl))⟩
theorem wX3_13 : jFd "MoonRooms$Row" 13 3 0 (.array .int) true := ⟨RX3, TX3, 2, tyX3, jcl_X3, by decide, ⟨rfl, rfl⟩, (Or.inl (jWd_t1 (i := 43) rfl rfl))⟩
theorem lX3_34 : jWd (.methodLink "MoonRooms$Row" 34 arraycopyName) := jWd_t2 (i := 174) rfl rfl
theorem wac_n : jWd (.native arraycopyName) := jWd_t2 (i := 176) rfl rfl
theorem wac_s : jWd (.static arraycopyName) := jWd_t2 (i := 175) rfl rfl
theorem wac_i : jWd (.initialized "java/lang/System") := jWd_t1 (i := 13) rfl rfl
abbrev m3_takeFrom : JM := (yX3_takeFrom, cX3_takeFrom, 5, some .boolean, RX3)
theorem sm3_takeFrom : jMs m3_takeFrom 4 := ⟨jWd_t2 (i := 173) rfl rfl, jWd_t1 (i := 3) rfl rfl, by decide +kernel, by decide, rfl⟩
theorem sm3_takeFrom_w : jWd (.instanceMethod m3_takeFrom.1) ∧ jWd (.selects m3_takeFrom.1.cls m3_takeFrom.1 m3_takeFrom.1) := ⟨jWd_t2 (i := 171) rfl rfl, jWd_t2 (i := 172) rfl rfl⟩
theorem lX3_27 : jWd (.methodLink "MoonRooms$Row" 27 Lib.Math.min.name) := jWd_t2 (i := 169) rfl rfl
theorem wm_max_s : jWd (.static Lib.Math.max.name) := jWd_t1 (i := 41) rfl rfl
theorem wm_max_c : jWd (.code Lib.Math.max.name Lib.Math.max.code 2 (some .int)) := jWd_t1 (i := 42) rfl rfl
theorem wm_min_s : jWd (.static Lib.Math.min.name) := jWd_t2 (i := 47) rfl rfl
theorem wm_min_c : jWd (.code Lib.Math.min.name Lib.Math.min.code 2 (some .int)) := jWd_t2 (i := 48) rfl rfl
theorem wm_i : jWd (.initialized "java/lang/Math") := jWd_t1 (i := 4) rfl rfl
theorem lX3_7 : jWd (.methodLink "MoonRooms$Row" 7 Lib.Math.max.name) := jWd_t1 (i := 40) rfl rfl
theorem lX3_30 : jWd (.methodLink "MoonRooms$Row" 30 yX3_takeFrom) := jWd_t2 (i := 170) rfl rfl
abbrev m3_copyFrom : JM := (yX3_copyFrom, cX3_copyFrom, 2, none, RX3)
theorem sm3_copyFrom : jMs m3_copyFrom 1 := ⟨jWd_t2 (i := 168) rfl rfl, jWd_t1 (i := 3) rfl rfl, by decide +kernel, by decide, rfl⟩
theorem sm3_copyFrom_w : jWd (.instanceMethod m3_copyFrom.1) ∧ jWd (.selects m3_copyFrom.1.cls m3_copyFrom.1 m3_copyFrom.1) := ⟨jWd_t2 (i := 166) rfl rfl, jWd_t2 (i := 167) rfl rfl⟩
theorem wX1_14 : jFd "MoonRooms$Law" 14 1 1 (.object "MoonRooms$Row") true := ⟨RX1, TX1, 3, tyX1, jcl_X1, by decide, ⟨rfl, rfl⟩, (Or.inl (jWd_t1 (i := 64) rfl rfl))⟩
theorem lX1_28 : jWd (.methodLink "MoonRooms$Law" 28 yX3_copyFrom) := jWd_t2 (i := 230) rfl rfl
abbrev m1_copyFrom : JM := (yX1_copyFrom, cX1_copyFrom, 2, none, RX1)
theorem sm1_copyFrom : jMs m1_copyFrom 1 := ⟨jWd_t2 (i := 229) rfl rfl, jWd_t1 (i := 5) rfl rfl, by decide +kernel, by decide, rfl⟩
theorem sm1_copyFrom_w : jWd (.instanceMethod m1_copyFrom.1) ∧ jWd (.selects m1_copyFrom.1.cls m1_copyFrom.1 m1_copyFrom.1) := ⟨jWd_t2 (i := 227) rfl rfl, jWd_t2 (i := 228) rfl rfl⟩
theorem wX0_44 : jFd "MoonRooms$House" 44 0 0 (.int) false := ⟨RX0, TX0, 9, tyX0, jcl_X0, by decide, ⟨rfl, rfl⟩, (Or.inl (jWd_t1 (i := 107) rfl rfl))⟩
theorem wX0_47 : jFd "MoonRooms$House" 47 0 1 (.int) false := ⟨RX0, TX0, 9, tyX0, jcl_X0, by decide, ⟨rfl, rfl⟩, (Or.inl (jWd_t1 (i := 109) rfl rfl))⟩
theorem wX0_9 : jFd "MoonRooms$House" 9 0 2 (.int) false := ⟨RX0, TX0, 9, tyX0, jcl_X0, by decide, ⟨rfl, rfl⟩, (Or.inl (jWd_t1 (i := 111) rfl rfl))⟩
theorem wX0_26 : jFd "MoonRooms$House" 26 0 5 (.object "MoonRooms$Row") true := ⟨RX0, TX0, 9, tyX0, jcl_X0, by decide, ⟨rfl, rfl⟩, (Or.inl (jWd_t1 (i := 116) rfl rfl))⟩
theorem lX0_61 : jWd (.methodLink "MoonRooms$House" 61 yX3_copyFrom) := jWd_t3 (i := 56) rfl rfl
theorem wX0_30 : jFd "MoonRooms$House" 30 0 6 (.object "MoonRooms$Row") true := ⟨RX0, TX0, 9, tyX0, jcl_X0, by decide, ⟨rfl, rfl⟩, (Or.inl (jWd_t1 (i := 118) rfl rfl))⟩
theorem wX0_36 : jFd "MoonRooms$House" 36 0 7 (.object "MoonRooms$Law") true := ⟨RX0, TX0, 9, tyX0, jcl_X0, by decide, ⟨rfl, rfl⟩, (Or.inl (jWd_t1 (i := 120) rfl rfl))⟩
theorem wX0_64 : jFd "MoonRooms$House" 64 1 1 (.object "MoonRooms$Row") true := ⟨RX1, TX1, 3, tyX1, jcl_X1, by decide, ⟨rfl, rfl⟩, (Or.inr ⟨"MoonRooms", jWd_t1 (i := 65) rfl rfl⟩)⟩
theorem lX0_67 : jWd (.methodLink "MoonRooms$House" 67 yX1_copyFrom) := jWd_t3 (i := 57) rfl rfl
theorem wX0_40 : jFd "MoonRooms$House" 40 0 8 (.object "MoonRooms$Law") true := ⟨RX0, TX0, 9, tyX0, jcl_X0, by decide, ⟨rfl, rfl⟩, (Or.inl (jWd_t1 (i := 121) rfl rfl))⟩
theorem lX0_53 : jWd (.methodLink "MoonRooms$House" 53 yX0_find) := jWd_t2 (i := 59) rfl rfl
theorem lX0_57 : jWd (.methodLink "MoonRooms$House" 57 yX6_copyFrom) := jWd_t3 (i := 52) rfl rfl
abbrev m0_copyFrom : JM := (yX0_copyFrom, cX0_copyFrom, 5, none, RX0)
theorem sm0_copyFrom : jMs m0_copyFrom 1 := ⟨jWd_t3 (i := 51) rfl rfl, jWd_t1 (i := 2) rfl rfl, by decide +kernel, by decide, rfl⟩
theorem sm0_copyFrom_w : jWd (.instanceMethod m0_copyFrom.1) ∧ jWd (.selects m0_copyFrom.1.cls m0_copyFrom.1 m0_copyFrom.1) := ⟨jWd_t3 (i := 49) rfl rfl, jWd_t3 (i := 50) rfl rfl⟩
theorem wX0_68 : jFd "MoonRooms$House" 68 6 0 (.int) false := ⟨RX6, TX6, 5, tyX6, jcl_X6, by decide, ⟨rfl, rfl⟩, (Or.inr ⟨"MoonRooms", jWd_t1 (i := 81) rfl rfl⟩)⟩
theorem wX0_71 : jFd "MoonRooms$House" 71 6 1 (.int) false := ⟨RX6, TX6, 5, tyX6, jcl_X6, by decide, ⟨rfl, rfl⟩, (Or.inr ⟨"MoonRooms", jWd_t1 (i := 85) rfl rfl⟩)⟩
theorem wX0_74 : jFd "MoonRooms$House" 74 6 2 (.int) false := ⟨RX6, TX6, 5, tyX6, jcl_X6, by decide, ⟨rfl, rfl⟩, (Or.inr ⟨"MoonRooms", jWd_t1 (i := 88) rfl rfl⟩)⟩
theorem wX0_77 : jFd "MoonRooms$House" 77 6 3 (.int) false := ⟨RX6, TX6, 5, tyX6, jcl_X6, by decide, ⟨rfl, rfl⟩, (Or.inr ⟨"MoonRooms", jWd_t1 (i := 91) rfl rfl⟩)⟩
theorem wX0_80 : jFd "MoonRooms$House" 80 6 4 (.boolean) false := ⟨RX6, TX6, 5, tyX6, jcl_X6, by decide, ⟨rfl, rfl⟩, (Or.inr ⟨"MoonRooms", jWd_t1 (i := 94) rfl rfl⟩)⟩
abbrev m0_takeIn : JM := (yX0_takeIn, cX0_takeIn, 4, some .int, RX0)
theorem sm0_takeIn : jMs m0_takeIn 2 := ⟨jWd_t2 (i := 90) rfl rfl, jWd_t1 (i := 2) rfl rfl, by decide +kernel, by decide, rfl⟩
theorem sm0_takeIn_w : jWd (.instanceMethod m0_takeIn.1) ∧ jWd (.selects m0_takeIn.1.cls m0_takeIn.1 m0_takeIn.1) := ⟨jWd_t2 (i := 88) rfl rfl, jWd_t2 (i := 89) rfl rfl⟩
abbrev m0_lawOf : JM := (yX0_lawOf, cX0_lawOf, 2, some (.object "MoonRooms$Law"), RX0)
theorem sm0_lawOf : jMs m0_lawOf 1 := ⟨jWd_t2 (i := 225) rfl rfl, jWd_t1 (i := 2) rfl rfl, by decide +kernel, by decide, rfl⟩
theorem sm0_lawOf_w : jWd (.instanceMethod m0_lawOf.1) ∧ jWd (.selects m0_lawOf.1.cls m0_lawOf.1 m0_lawOf.1) := ⟨jWd_t2 (i := 223) rfl rfl, jWd_t2 (i := 224) rfl rfl⟩
abbrev m3_get : JM := (yX3_get, cX3_get, 2, some .int, RX3)
theorem sm3_get : jMs m3_get 1 := ⟨jWd_t2 (i := 36) rfl rfl, jWd_t1 (i := 3) rfl rfl, by decide +kernel, by decide, rfl⟩
theorem sm3_get_w : jWd (.instanceMethod m3_get.1) ∧ jWd (.selects m3_get.1.cls m3_get.1 m3_get.1) := ⟨jWd_t2 (i := 34) rfl rfl, jWd_t2 (i := 35) rfl rfl⟩
abbrev m1_valueOf : JM := (yX1_valueOf, cX1_valueOf, 4, some .int, RX1)
theorem sm1_valueOf : jMs m1_valueOf 4 := ⟨jWd_t2 (i := 39) rfl rfl, jWd_t1 (i := 5) rfl rfl, by decide +kernel, by decide, rfl⟩
theorem sm1_valueOf_w : jWd (.static m1_valueOf.1) := jWd_t2 (i := 38) rfl rfl
abbrev m1_asInt : JM := (yX1_asInt, cX1_asInt, 1, some .int, RX1)
theorem sm1_asInt : jMs m1_asInt 1 := ⟨jWd_t2 (i := 42) rfl rfl, jWd_t1 (i := 5) rfl rfl, by decide +kernel, by decide, rfl⟩
theorem sm1_asInt_w : jWd (.static m1_asInt.1) := jWd_t2 (i := 41) rfl rfl
abbrev m1_join : JM := (yX1_join, cX1_join, 3, some .int, RX1)
theorem sm1_join : jMs m1_join 3 := ⟨jWd_t2 (i := 45) rfl rfl, jWd_t1 (i := 5) rfl rfl, by decide +kernel, by decide, rfl⟩
theorem sm1_join_w : jWd (.static m1_join.1) := jWd_t2 (i := 44) rfl rfl
theorem wX1_32 : jFd "MoonRooms$Law" 32 3 1 (.int) false := ⟨RX3, TX3, 2, tyX3, jcl_X3, by decide, ⟨rfl, rfl⟩, (Or.inr ⟨"MoonRooms", jWd_t1 (i := 47) rfl rfl⟩)⟩
theorem wX1_20 : jFd "MoonRooms$Law" 20 1 2 (.array .int) true := ⟨RX1, TX1, 3, tyX1, jcl_X1, by decide, ⟨rfl, rfl⟩, (Or.inl (jWd_t1 (i := 66) rfl rfl))⟩
theorem lX1_48 : jWd (.methodLink "MoonRooms$Law" 48 yX3_get) := jWd_t2 (i := 33) rfl rfl
theorem lX1_60 : jWd (.methodLink "MoonRooms$Law" 60 yX1_join) := jWd_t2 (i := 43) rfl rfl
theorem lX1_52 : jWd (.methodLink "MoonRooms$Law" 52 yX1_valueOf) := jWd_t2 (i := 37) rfl rfl
theorem lX1_56 : jWd (.methodLink "MoonRooms$Law" 56 yX1_asInt) := jWd_t2 (i := 40) rfl rfl
abbrev m1_workOut : JM := (yX1_workOut, cX1_workOut, 7, some .int, RX1)
theorem sm1_workOut : jMs m1_workOut 3 := ⟨jWd_t2 (i := 32) rfl rfl, jWd_t1 (i := 5) rfl rfl, by decide +kernel, by decide, rfl⟩
theorem sm1_workOut_w : jWd (.instanceMethod m1_workOut.1) ∧ jWd (.selects m1_workOut.1.cls m1_workOut.1 m1_workOut.1) := ⟨jWd_t2 (i := 31) rfl rfl, jWd_sel (i := 1) (n := 3) rfl⟩
theorem wX1_24 : jFd "MoonRooms$Law" 24 1 0 (.int) true := ⟨RX1, TX1, 3, tyX1, jcl_X1, by decide, ⟨rfl, rfl⟩, (Or.inl (jWd_t1 (i := 63) rfl rfl))⟩
theorem lX1_35 : jWd (.methodLink "MoonRooms$Law" 35 yX1_workOut) := jWd_t2 (i := 29) rfl rfl
theorem lX1_39 : jWd (.methodLink "MoonRooms$Law" 39 Lib.Math.min.name) := jWd_t2 (i := 46) rfl rfl
theorem lX1_45 : jWd (.methodLink "MoonRooms$Law" 45 Lib.Math.max.name) := jWd_t2 (i := 49) rfl rfl
abbrev m1_rule : JM := (yX1_rule, cX1_rule, 5, some .int, RX1)
theorem sm1_rule : jMs m1_rule 3 := ⟨jWd_t2 (i := 28) rfl rfl, jWd_t1 (i := 5) rfl rfl, by decide +kernel, by decide, rfl⟩
theorem sm1_rule_w : jWd (.instanceMethod m1_rule.1) ∧ jWd (.selects m1_rule.1.cls m1_rule.1 m1_rule.1) := ⟨jWd_t2 (i := 26) rfl rfl, jWd_t2 (i := 27) rfl rfl⟩
theorem lX0_84 : jWd (.methodLink "MoonRooms$House" 84 yX1_rule) := jWd_t2 (i := 25) rfl rfl
theorem lX0_88 : jWd (.methodLinkNest "MoonRooms$House" 88 yX8_litBy "MoonRooms") := jWd_t2 (i := 50) rfl rfl
abbrev m8_litBy : JM := (yX8_litBy, cX8_litBy, 2, some .int, RX8)
theorem sm8_litBy : jMs m8_litBy 1 := ⟨jWd_t2 (i := 19) rfl rfl, jWd_t1 (i := 1) rfl rfl, by decide +kernel, by decide, rfl⟩
theorem sm8_litBy_w : jWd (.static m8_litBy.1) := jWd_t2 (i := 18) rfl rfl
abbrev m0_seenIn : JM := (yX0_seenIn, cX0_seenIn, 3, some .int, RX0)
theorem sm0_seenIn : jMs m0_seenIn 1 := ⟨jWd_t2 (i := 24) rfl rfl, jWd_t1 (i := 2) rfl rfl, by decide +kernel, by decide, rfl⟩
theorem sm0_seenIn_w : jWd (.instanceMethod m0_seenIn.1) ∧ jWd (.selects m0_seenIn.1.cls m0_seenIn.1 m0_seenIn.1) := ⟨jWd_t2 (i := 22) rfl rfl, jWd_t2 (i := 23) rfl rfl⟩
abbrev m0_holdersOf : JM := (yX0_holdersOf, cX0_holdersOf, 5, some .int, RX0)
theorem sm0_holdersOf : jMs m0_holdersOf 1 := ⟨jWd_t2 (i := 58) rfl rfl, jWd_t1 (i := 2) rfl rfl, by decide +kernel, by decide, rfl⟩
theorem sm0_holdersOf_w : jWd (.instanceMethod m0_holdersOf.1) ∧ jWd (.selects m0_holdersOf.1.cls m0_holdersOf.1 m0_holdersOf.1) := ⟨jWd_t2 (i := 56) rfl rfl, jWd_t2 (i := 57) rfl rfl⟩
abbrev m0_heldByOthers : JM := (yX0_heldByOthers, cX0_heldByOthers, 5, some .int, RX0)
theorem sm0_heldByOthers : jMs m0_heldByOthers 1 := ⟨jWd_t3 (i := 106) rfl rfl, jWd_t1 (i := 2) rfl rfl, by decide +kernel, by decide, rfl⟩
theorem sm0_heldByOthers_w : jWd (.instanceMethod m0_heldByOthers.1) ∧ jWd (.selects m0_heldByOthers.1.cls m0_heldByOthers.1 m0_heldByOthers.1) := ⟨jWd_t3 (i := 104) rfl rfl, jWd_t3 (i := 105) rfl rfl⟩
theorem kJ6_265 : jWd (.constant "java/lang/Integer" 265 (1431655765)) := jWd_t2 (i := 66) rfl rfl
theorem kJ6_266 : jWd (.constant "java/lang/Integer" 266 (858993459)) := jWd_t2 (i := 67) rfl rfl
theorem kJ6_267 : jWd (.constant "java/lang/Integer" 267 (252645135)) := jWd_t2 (i := 68) rfl rfl
abbrev mj6_bitCount_0f7a4 : JM := (yJ6_bitCount_0f7a4, cJ6_bitCount_0f7a4, 1, some .int, RJ6)
theorem smj6_bitCount_0f7a4 : jMs mj6_bitCount_0f7a4 1 := ⟨jWd_t2 (i := 65) rfl rfl, jWd_t1 (i := 12) rfl rfl, by decide +kernel, by decide, rfl⟩
theorem smj6_bitCount_0f7a4_w : jWd (.static mj6_bitCount_0f7a4.1) := jWd_t2 (i := 64) rfl rfl
theorem lX0_92 : jWd (.methodLink "MoonRooms$House" 92 yX0_holdersOf) := jWd_t2 (i := 55) rfl rfl
theorem lX0_95 : jWd (.methodLink "MoonRooms$House" 95 yJ6_bitCount_0f7a4) := jWd_t2 (i := 63) rfl rfl
abbrev m0_sharersWith : JM := (yX0_sharersWith, cX0_sharersWith, 3, some .int, RX0)
theorem sm0_sharersWith : jMs m0_sharersWith 1 := ⟨jWd_t2 (i := 106) rfl rfl, jWd_t1 (i := 2) rfl rfl, by decide +kernel, by decide, rfl⟩
theorem sm0_sharersWith_w : jWd (.instanceMethod m0_sharersWith.1) ∧ jWd (.selects m0_sharersWith.1.cls m0_sharersWith.1 m0_sharersWith.1) := ⟨jWd_t2 (i := 104) rfl rfl, jWd_t2 (i := 105) rfl rfl⟩
abbrev m0_howManyEvicted : JM := (yX0_howManyEvicted, cX0_howManyEvicted, 4, some .int, RX0)
theorem sm0_howManyEvicted : jMs m0_howManyEvicted 0 := ⟨jWd_t2 (i := 144) rfl rfl, jWd_t1 (i := 2) rfl rfl, by decide +kernel, by decide, rfl⟩
theorem sm0_howManyEvicted_w : jWd (.instanceMethod m0_howManyEvicted.1) ∧ jWd (.selects m0_howManyEvicted.1.cls m0_howManyEvicted.1 m0_howManyEvicted.1) := ⟨jWd_t2 (i := 142) rfl rfl, jWd_t2 (i := 143) rfl rfl⟩
abbrev m0_rentTogether : JM := (yX0_rentTogether, cX0_rentTogether, 4, some .int, RX0)
theorem sm0_rentTogether : jMs m0_rentTogether 1 := ⟨jWd_t2 (i := 54) rfl rfl, jWd_t1 (i := 2) rfl rfl, by decide +kernel, by decide, rfl⟩
theorem sm0_rentTogether_w : jWd (.instanceMethod m0_rentTogether.1) ∧ jWd (.selects m0_rentTogether.1.cls m0_rentTogether.1 m0_rentTogether.1) := ⟨jWd_t2 (i := 52) rfl rfl, jWd_t2 (i := 53) rfl rfl⟩
theorem lX6_28 : jWd (.methodLinkNest "MoonRooms$Tenant" 28 yX8_litBy "MoonRooms") := jWd_t2 (i := 102) rfl rfl
abbrev m6_looksIn : JM := (yX6_looksIn, cX6_looksIn, 2, some .boolean, RX6)
theorem sm6_looksIn : jMs m6_looksIn 1 := ⟨jWd_t2 (i := 101) rfl rfl, jWd_t1 (i := 6) rfl rfl, by decide +kernel, by decide, rfl⟩
theorem sm6_looksIn_w : jWd (.instanceMethod m6_looksIn.1) ∧ jWd (.selects m6_looksIn.1.cls m6_looksIn.1 m6_looksIn.1) := ⟨jWd_t2 (i := 99) rfl rfl, jWd_t2 (i := 100) rfl rfl⟩
abbrev m6_wages : JM := (yX6_wages, cX6_wages, 2, some .int, RX6)
theorem sm6_wages : jMs m6_wages 1 := ⟨jWd_t3 (i := 18) rfl rfl, jWd_t1 (i := 6) rfl rfl, by decide +kernel, by decide, rfl⟩
theorem sm6_wages_w : jWd (.instanceMethod m6_wages.1) ∧ jWd (.selects m6_wages.1.cls m6_wages.1 m6_wages.1) := ⟨jWd_t3 (i := 17) rfl rfl, jWd_sel (i := 10) (n := 5) rfl⟩
theorem lX6_32 : jWd (.methodLink "MoonRooms$Tenant" 32 yX6_looksIn) := jWd_t3 (i := 13) rfl rfl
theorem lX6_36 : jWd (.methodLink "MoonRooms$Tenant" 36 yJ6_bitCount_0f7a4) := jWd_t3 (i := 14) rfl rfl
theorem lX6_41 : jWd (.methodLink "MoonRooms$Tenant" 41 yX6_wages) := jWd_t3 (i := 15) rfl rfl
theorem lX6_44 : jWd (.methodLink "MoonRooms$Tenant" 44 Lib.Math.min.name) := jWd_t3 (i := 19) rfl rfl
abbrev m6_earn : JM := (yX6_earn, cX6_earn, 4, none, RX6)
theorem sm6_earn : jMs m6_earn 2 := ⟨jWd_t3 (i := 12) rfl rfl, jWd_t1 (i := 6) rfl rfl, by decide +kernel, by decide, rfl⟩
theorem sm6_earn_w : jWd (.instanceMethod m6_earn.1) ∧ jWd (.selects m6_earn.1.cls m6_earn.1 m6_earn.1) := ⟨jWd_t3 (i := 10) rfl rfl, jWd_t3 (i := 11) rfl rfl⟩
theorem lX0_106 : jWd (.methodLink "MoonRooms$House" 106 yX0_seenIn) := jWd_t3 (i := 8) rfl rfl
theorem lX0_109 : jWd (.methodLink "MoonRooms$House" 109 yX6_earn) := jWd_t3 (i := 9) rfl rfl
abbrev m0_earnAll : JM := (yX0_earnAll, cX0_earnAll, 4, none, RX0)
theorem sm0_earnAll : jMs m0_earnAll 0 := ⟨jWd_t3 (i := 7) rfl rfl, jWd_t1 (i := 2) rfl rfl, by decide +kernel, by decide, rfl⟩
theorem sm0_earnAll_w : jWd (.instanceMethod m0_earnAll.1) ∧ jWd (.selects m0_earnAll.1.cls m0_earnAll.1 m0_earnAll.1) := ⟨jWd_t3 (i := 6) rfl rfl, jWd_sel (i := 9) (n := 9) rfl⟩
theorem lX6_50 : jWd (.methodLink "MoonRooms$Tenant" 50 Lib.Math.max.name) := jWd_t2 (i := 111) rfl rfl
abbrev m6_owesBy : JM := (yX6_owesBy, cX6_owesBy, 3, some .int, RX6)
theorem sm6_owesBy : jMs m6_owesBy 2 := ⟨jWd_t2 (i := 110) rfl rfl, jWd_t1 (i := 6) rfl rfl, by decide +kernel, by decide, rfl⟩
theorem sm6_owesBy_w : jWd (.instanceMethod m6_owesBy.1) ∧ jWd (.selects m6_owesBy.1.cls m6_owesBy.1 m6_owesBy.1) := ⟨jWd_t2 (i := 108) rfl rfl, jWd_t2 (i := 109) rfl rfl⟩
abbrev m6_pay : JM := (yX6_pay, cX6_pay, 2, none, RX6)
theorem sm6_pay : jMs m6_pay 1 := ⟨jWd_t3 (i := 30) rfl rfl, jWd_t1 (i := 6) rfl rfl, by decide +kernel, by decide, rfl⟩
theorem sm6_pay_w : jWd (.instanceMethod m6_pay.1) ∧ jWd (.selects m6_pay.1.cls m6_pay.1 m6_pay.1) := ⟨jWd_t3 (i := 28) rfl rfl, jWd_t3 (i := 29) rfl rfl⟩
theorem lX0_113 : jWd (.methodLink "MoonRooms$House" 113 yX0_rentTogether) := jWd_t3 (i := 24) rfl rfl
theorem lX0_116 : jWd (.methodLink "MoonRooms$House" 116 yX0_sharersWith) := jWd_t3 (i := 25) rfl rfl
theorem lX0_119 : jWd (.methodLink "MoonRooms$House" 119 yX6_owesBy) := jWd_t3 (i := 26) rfl rfl
theorem lX0_123 : jWd (.methodLink "MoonRooms$House" 123 yX6_pay) := jWd_t3 (i := 27) rfl rfl
abbrev m0_payAll : JM := (yX0_payAll, cX0_payAll, 3, none, RX0)
theorem sm0_payAll : jMs m0_payAll 0 := ⟨jWd_t3 (i := 23) rfl rfl, jWd_t1 (i := 2) rfl rfl, by decide +kernel, by decide, rfl⟩
theorem sm0_payAll_w : jWd (.instanceMethod m0_payAll.1) ∧ jWd (.selects m0_payAll.1.cls m0_payAll.1 m0_payAll.1) := ⟨jWd_t3 (i := 22) rfl rfl, jWd_sel (i := 11) (n := 9) rfl⟩
theorem lX0_100 : jWd (.methodLink "MoonRooms$House" 100 yX0_earnAll) := jWd_t3 (i := 4) rfl rfl
theorem lX0_103 : jWd (.methodLink "MoonRooms$House" 103 yX0_payAll) := jWd_t3 (i := 20) rfl rfl
abbrev m0_passNights : JM := (yX0_passNights, cX0_passNights, 3, none, RX0)
theorem sm0_passNights : jMs m0_passNights 1 := ⟨jWd_t3 (i := 3) rfl rfl, jWd_t1 (i := 2) rfl rfl, by decide +kernel, by decide, rfl⟩
theorem sm0_passNights_w : jWd (.instanceMethod m0_passNights.1) ∧ jWd (.selects m0_passNights.1.cls m0_passNights.1 m0_passNights.1) := ⟨jWd_t3 (i := 1) rfl rfl, jWd_t3 (i := 2) rfl rfl⟩
theorem kX0_126 : jWd (.constant "MoonRooms$House" 126 (1103515245)) := jWd_t3 (i := 43) rfl rfl
abbrev m0_draw : JM := (yX0_draw, cX0_draw, 1, some .int, RX0)
theorem sm0_draw : jMs m0_draw 0 := ⟨jWd_t3 (i := 42) rfl rfl, jWd_t1 (i := 2) rfl rfl, by decide +kernel, by decide, rfl⟩
theorem sm0_draw_w : jWd (.instanceMethod m0_draw.1) ∧ jWd (.selects m0_draw.1.cls m0_draw.1 m0_draw.1) := ⟨jWd_t3 (i := 41) rfl rfl, jWd_sel (i := 12) (n := 9) rfl⟩
theorem lX0_127 : jWd (.methodLink "MoonRooms$House" 127 yX0_draw) := jWd_t3 (i := 39) rfl rfl
abbrev m0_drawNight : JM := (yX0_drawNight, cX0_drawNight, 4, none, RX0)
theorem sm0_drawNight : jMs m0_drawNight 0 := ⟨jWd_t3 (i := 38) rfl rfl, jWd_t1 (i := 2) rfl rfl, by decide +kernel, by decide, rfl⟩
theorem sm0_drawNight_w : jWd (.instanceMethod m0_drawNight.1) ∧ jWd (.selects m0_drawNight.1.cls m0_drawNight.1 m0_drawNight.1) := ⟨jWd_t3 (i := 36) rfl rfl, jWd_t3 (i := 37) rfl rfl⟩
theorem lX0_131 : jWd (.methodLinkNest "MoonRooms$House" 131 yX8_isUnder "MoonRooms") := jWd_t3 (i := 79) rfl rfl
abbrev m8_isUnder : JM := (yX8_isUnder, cX8_isUnder, 4, some .boolean, RX8)
theorem sm8_isUnder : jMs m8_isUnder 2 := ⟨jWd_t2 (i := 122) rfl rfl, jWd_t1 (i := 1) rfl rfl, by decide +kernel, by decide, rfl⟩
theorem sm8_isUnder_w : jWd (.static m8_isUnder.1) := jWd_t2 (i := 121) rfl rfl
abbrev m0_clashersWith : JM := (yX0_clashersWith, cX0_clashersWith, 6, some .int, RX0)
theorem sm0_clashersWith : jMs m0_clashersWith 1 := ⟨jWd_t3 (i := 78) rfl rfl, jWd_t1 (i := 2) rfl rfl, by decide +kernel, by decide, rfl⟩
theorem sm0_clashersWith_w : jWd (.instanceMethod m0_clashersWith.1) ∧ jWd (.selects m0_clashersWith.1.cls m0_clashersWith.1 m0_clashersWith.1) := ⟨jWd_t3 (i := 76) rfl rfl, jWd_t3 (i := 77) rfl rfl⟩
theorem lX0_139 : jWd (.methodLink "MoonRooms$House" 139 yX0_clashersWith) := jWd_t3 (i := 93) rfl rfl
abbrev m0_isPeaceWithout : JM := (yX0_isPeaceWithout, cX0_isPeaceWithout, 3, some .boolean, RX0)
theorem sm0_isPeaceWithout : jMs m0_isPeaceWithout 1 := ⟨jWd_t3 (i := 92) rfl rfl, jWd_t1 (i := 2) rfl rfl, by decide +kernel, by decide, rfl⟩
theorem sm0_isPeaceWithout_w : jWd (.instanceMethod m0_isPeaceWithout.1) ∧ jWd (.selects m0_isPeaceWithout.1.cls m0_isPeaceWithout.1 m0_isPeaceWithout.1) := ⟨jWd_t3 (i := 91) rfl rfl, jWd_sel (i := 13) (n := 9) rfl⟩
theorem lX0_135 : jWd (.methodLink "MoonRooms$House" 135 yX0_isPeaceWithout) := jWd_t3 (i := 89) rfl rfl
abbrev m0_leastToGiveUp : JM := (yX0_leastToGiveUp, cX0_leastToGiveUp, 3, some .int, RX0)
theorem sm0_leastToGiveUp : jMs m0_leastToGiveUp 0 := ⟨jWd_t3 (i := 88) rfl rfl, jWd_t1 (i := 2) rfl rfl, by decide +kernel, by decide, rfl⟩
theorem sm0_leastToGiveUp_w : jWd (.instanceMethod m0_leastToGiveUp.1) ∧ jWd (.selects m0_leastToGiveUp.1.cls m0_leastToGiveUp.1 m0_leastToGiveUp.1) := ⟨jWd_t3 (i := 86) rfl rfl, jWd_t3 (i := 87) rfl rfl⟩
abbrev m3_empty : JM := (yX3_empty, cX3_empty, 1, none, RX3)
theorem sm3_empty : jMs m3_empty 0 := ⟨jWd_t2 (i := 180) rfl rfl, jWd_t1 (i := 3) rfl rfl, by decide +kernel, by decide, rfl⟩
theorem sm3_empty_w : jWd (.instanceMethod m3_empty.1) ∧ jWd (.selects m3_empty.1.cls m3_empty.1 m3_empty.1) := ⟨jWd_t2 (i := 178) rfl rfl, jWd_t2 (i := 179) rfl rfl⟩
abbrev m3_has : JM := (yX3_has, cX3_has, 2, some .boolean, RX3)
theorem sm3_has : jMs m3_has 1 := ⟨jWd_t2 (i := 196) rfl rfl, jWd_t1 (i := 3) rfl rfl, by decide +kernel, by decide, rfl⟩
theorem sm3_has_w : jWd (.instanceMethod m3_has.1) ∧ jWd (.selects m3_has.1.cls m3_has.1 m3_has.1) := ⟨jWd_t2 (i := 194) rfl rfl, jWd_t2 (i := 195) rfl rfl⟩
theorem wX2_14 : jFd "MoonRooms$Reader" 14 2 0 (.object "MoonRooms$Row") true := ⟨RX2, TX2, 4, tyX2, jcl_X2, by decide, ⟨rfl, rfl⟩, (Or.inl (jWd_t1 (i := 149) rfl rfl))⟩
theorem jo_cPl_61 : jO cPl 61 2 = true := by decide +kernel
theorem jr_61_0 : jrf 61 0 = 62 := by decide +kernel
theorem wX2_34 : jFd "MoonRooms$Reader" 34 2 3 (.int) false := ⟨RX2, TX2, 4, tyX2, jcl_X2, by decide, ⟨rfl, rfl⟩, (Or.inl (jWd_t1 (i := 153) rfl rfl))⟩
theorem lX2_44 : jWd (.methodLink "MoonRooms$Reader" 44 yX3_has) := jWd_t2 (i := 193) rfl rfl
theorem jo_cPl_62 : jO cPl 62 3 = true := by decide +kernel
theorem lX2_48 : jWd (.methodLink "MoonRooms$Reader" 48 yX3_get) := jWd_t2 (i := 197) rfl rfl
abbrev m2_here : JM := (yX2_here, cX2_here, 1, some .int, RX2)
theorem sm2_here : jMs m2_here 0 := ⟨jWd_t2 (i := 192) rfl rfl, jWd_t1 (i := 7) rfl rfl, by decide +kernel, by decide, rfl⟩
theorem sm2_here_w : jWd (.instanceMethod m2_here.1) ∧ jWd (.selects m2_here.1.cls m2_here.1 m2_here.1) := ⟨jWd_t2 (i := 191) rfl rfl, jWd_sel (i := 4) (n := 4) rfl⟩
abbrev m2_levelOf : JM := (yX2_levelOf, cX2_levelOf, 1, some .int, RX2)
theorem sm2_levelOf : jMs m2_levelOf 1 := ⟨jWd_t2 (i := 220) rfl rfl, jWd_t1 (i := 7) rfl rfl, by decide +kernel, by decide, rfl⟩
theorem sm2_levelOf_w : jWd (.static m2_levelOf.1) := jWd_t2 (i := 219) rfl rfl
abbrev m3_add : JM := (yX3_add, cX3_add, 2, some .boolean, RX3)
theorem sm3_add : jMs m3_add 1 := ⟨jWd_t2 (i := 153) rfl rfl, jWd_t1 (i := 3) rfl rfl, by decide +kernel, by decide, rfl⟩
theorem sm3_add_w : jWd (.instanceMethod m3_add.1) ∧ jWd (.selects m3_add.1.cls m3_add.1 m3_add.1) := ⟨jWd_t2 (i := 151) rfl rfl, jWd_t2 (i := 152) rfl rfl⟩
abbrev m2_isDigit : JM := (yX2_isDigit, cX2_isDigit, 1, some .boolean, RX2)
theorem sm2_isDigit : jMs m2_isDigit 1 := ⟨jWd_t2 (i := 200) rfl rfl, jWd_t1 (i := 7) rfl rfl, by decide +kernel, by decide, rfl⟩
theorem sm2_isDigit_w : jWd (.static m2_isDigit.1) := jWd_t2 (i := 199) rfl rfl
theorem lX2_55 : jWd (.methodLink "MoonRooms$Reader" 55 yX2_here) := jWd_t2 (i := 189) rfl rfl
theorem lX2_65 : jWd (.methodLink "MoonRooms$Reader" 65 yX2_isDigit) := jWd_t2 (i := 198) rfl rfl
theorem wX2_20 : jFd "MoonRooms$Reader" 20 2 1 (.object "MoonRooms$Row") true := ⟨RX2, TX2, 4, tyX2, jcl_X2, by decide, ⟨rfl, rfl⟩, (Or.inl (jWd_t1 (i := 150) rfl rfl))⟩
theorem jr_61_1 : jrf 61 1 = 64 := by decide +kernel
theorem lX2_62 : jWd (.methodLink "MoonRooms$Reader" 62 yX3_add) := jWd_t2 (i := 205) rfl rfl
theorem jo_cPl_64 : jO cPl 64 3 = true := by decide +kernel
abbrev m2_readNumber : JM := (yX2_readNumber, cX2_readNumber, 3, none, RX2)
theorem sm2_readNumber : jMs m2_readNumber 0 := ⟨jWd_t2 (i := 204) rfl rfl, jWd_t1 (i := 7) rfl rfl, by decide +kernel, by decide, rfl⟩
theorem sm2_readNumber_w : jWd (.instanceMethod m2_readNumber.1) ∧ jWd (.selects m2_readNumber.1.cls m2_readNumber.1 m2_readNumber.1) := ⟨jWd_t2 (i := 203) rfl rfl, jWd_sel (i := 5) (n := 4) rfl⟩
theorem wX2_30 : jFd "MoonRooms$Reader" 30 2 2 (.int) false := ⟨RX2, TX2, 4, tyX2, jcl_X2, by decide, ⟨rfl, rfl⟩, (Or.inl (jWd_t1 (i := 152) rfl rfl))⟩
abbrev m2_nameOf : JM := (yX2_nameOf, cX2_nameOf, 2, some .int, RX2)
theorem sm2_nameOf : jMs m2_nameOf 1 := ⟨jWd_t2 (i := 209) rfl rfl, jWd_t1 (i := 7) rfl rfl, by decide +kernel, by decide, rfl⟩
theorem sm2_nameOf_w : jWd (.instanceMethod m2_nameOf.1) ∧ jWd (.selects m2_nameOf.1.cls m2_nameOf.1 m2_nameOf.1) := ⟨jWd_t2 (i := 208) rfl rfl, jWd_sel (i := 6) (n := 4) rfl⟩
theorem lX2_37 : jWd (.methodLink "MoonRooms$Reader" 37 yX2_readLevel) := jWd_t2 (i := 181) rfl rfl
abbrev m2_readLevel : JM := (yX2_readLevel, cX2_readLevel, 6, some .boolean, RX2)
theorem sm2_readLevel : jMs m2_readLevel 2 := ⟨jWd_t2 (i := 184) rfl rfl, jWd_t1 (i := 7) rfl rfl, by decide +kernel, by decide, rfl⟩
theorem sm2_readLevel_w : jWd (.instanceMethod m2_readLevel.1) ∧ jWd (.selects m2_readLevel.1.cls m2_readLevel.1 m2_readLevel.1) := ⟨jWd_t2 (i := 183) rfl rfl, jWd_sel (i := 2) (n := 4) rfl⟩
theorem lX2_52 : jWd (.methodLink "MoonRooms$Reader" 52 yX2_readSingle) := jWd_t2 (i := 185) rfl rfl
abbrev m2_readSingle : JM := (yX2_readSingle, cX2_readSingle, 4, some .boolean, RX2)
theorem sm2_readSingle : jMs m2_readSingle 1 := ⟨jWd_t2 (i := 188) rfl rfl, jWd_t1 (i := 7) rfl rfl, by decide +kernel, by decide, rfl⟩
theorem sm2_readSingle_w : jWd (.instanceMethod m2_readSingle.1) ∧ jWd (.selects m2_readSingle.1.cls m2_readSingle.1 m2_readSingle.1) := ⟨jWd_t2 (i := 187) rfl rfl, jWd_sel (i := 3) (n := 4) rfl⟩
theorem lX2_59 : jWd (.methodLink "MoonRooms$Reader" 59 yX2_levelOf) := jWd_t2 (i := 218) rfl rfl
theorem lX2_71 : jWd (.methodLink "MoonRooms$Reader" 71 yX2_nameOf) := jWd_t2 (i := 206) rfl rfl
theorem lX2_68 : jWd (.methodLink "MoonRooms$Reader" 68 yX2_readNumber) := jWd_t2 (i := 201) rfl rfl
theorem lX2_77 : jWd (.methodLink "MoonRooms$Reader" 77 yX2_readClosed) := jWd_t2 (i := 214) rfl rfl
abbrev m2_readClosed : JM := (yX2_readClosed, cX2_readClosed, 2, some .boolean, RX2)
theorem sm2_readClosed : jMs m2_readClosed 1 := ⟨jWd_t2 (i := 217) rfl rfl, jWd_t1 (i := 7) rfl rfl, by decide +kernel, by decide, rfl⟩
theorem sm2_readClosed_w : jWd (.instanceMethod m2_readClosed.1) ∧ jWd (.selects m2_readClosed.1.cls m2_readClosed.1 m2_readClosed.1) := ⟨jWd_t2 (i := 216) rfl rfl, jWd_sel (i := 8) (n := 4) rfl⟩
theorem lX2_74 : jWd (.methodLink "MoonRooms$Reader" 74 yX2_readNot) := jWd_t2 (i := 210) rfl rfl
abbrev m2_readNot : JM := (yX2_readNot, cX2_readNot, 3, some .boolean, RX2)
theorem sm2_readNot : jMs m2_readNot 1 := ⟨jWd_t2 (i := 213) rfl rfl, jWd_t1 (i := 7) rfl rfl, by decide +kernel, by decide, rfl⟩
theorem sm2_readNot_w : jWd (.instanceMethod m2_readNot.1) ∧ jWd (.selects m2_readNot.1.cls m2_readNot.1 m2_readNot.1) := ⟨jWd_t2 (i := 212) rfl rfl, jWd_sel (i := 7) (n := 4) rfl⟩
theorem lX2_23 : jWd (.methodLink "MoonRooms$Reader" 23 yX3_copyFrom) := jWd_t2 (i := 165) rfl rfl
theorem lX2_27 : jWd (.methodLink "MoonRooms$Reader" 27 yX3_empty) := jWd_t2 (i := 177) rfl rfl
theorem wX2_41 : jFd "MoonRooms$Reader" 41 3 1 (.int) false := ⟨RX3, TX3, 2, tyX3, jcl_X3, by decide, ⟨rfl, rfl⟩, (Or.inr ⟨"MoonRooms", jWd_t1 (i := 46) rfl rfl⟩)⟩
abbrev m2_read : JM := (yX2_read, cX2_read, 4, some .int, RX2)
theorem sm2_read : jMs m2_read 2 := ⟨jWd_t2 (i := 164) rfl rfl, jWd_t1 (i := 7) rfl rfl, by decide +kernel, by decide, rfl⟩
theorem sm2_read_w : jWd (.instanceMethod m2_read.1) ∧ jWd (.selects m2_read.1.cls m2_read.1 m2_read.1) := ⟨jWd_t2 (i := 162) rfl rfl, jWd_t2 (i := 163) rfl rfl⟩
theorem lX3_23 : jWd (.methodLink "MoonRooms$Row" 23 yX3_has) := jWd_t3 (i := 199) rfl rfl
abbrev m3_set : JM := (yX3_set, cX3_set, 3, none, RX3)
theorem sm3_set : jMs m3_set 2 := ⟨jWd_t3 (i := 198) rfl rfl, jWd_t1 (i := 3) rfl rfl, by decide +kernel, by decide, rfl⟩
theorem sm3_set_w : jWd (.instanceMethod m3_set.1) ∧ jWd (.selects m3_set.1.cls m3_set.1 m3_set.1) := ⟨jWd_t3 (i := 196) rfl rfl, jWd_t3 (i := 197) rfl rfl⟩
abbrev m3_fillWithNone : JM := (yX3_fillWithNone, cX3_fillWithNone, 3, none, RX3)
theorem sm3_fillWithNone : jMs m3_fillWithNone 1 := ⟨jWd_t3 (i := 186) rfl rfl, jWd_t1 (i := 3) rfl rfl, by decide +kernel, by decide, rfl⟩
theorem sm3_fillWithNone_w : jWd (.instanceMethod m3_fillWithNone.1) ∧ jWd (.selects m3_fillWithNone.1.cls m3_fillWithNone.1 m3_fillWithNone.1) := ⟨jWd_t3 (i := 184) rfl rfl, jWd_t3 (i := 185) rfl rfl⟩
theorem wX4_20 : jFd "MoonRooms$Sheet" 20 4 1 (.int) false := ⟨RX4, TX4, 2, tyX4, jcl_X4, by decide, ⟨rfl, rfl⟩, (Or.inl (jWd_t1 (i := 209) rfl rfl))⟩
abbrev m4_lowestBits : JM := (yX4_lowestBits, cX4_lowestBits, 2, some .int, RX4)
theorem sm4_lowestBits : jMs m4_lowestBits 1 := ⟨jWd_t3 (i := 194) rfl rfl, jWd_t1 (i := 10) rfl rfl, by decide +kernel, by decide, rfl⟩
theorem sm4_lowestBits_w : jWd (.instanceMethod m4_lowestBits.1) ∧ jWd (.selects m4_lowestBits.1.cls m4_lowestBits.1 m4_lowestBits.1) := ⟨jWd_t3 (i := 192) rfl rfl, jWd_t3 (i := 193) rfl rfl⟩
theorem gX5_41 : jWd (.fieldLinkNest "MoonRooms$Speaker" 41 "MoonRooms" "ABOVE" "[I" "MoonRooms") := jWd_t3 (i := 170) rfl rfl
theorem gX5_45 : jWd (.fieldLink "MoonRooms$Speaker" 45 "MoonRooms$Speaker" "BODIES" "[I") := jWd_t3 (i := 171) rfl rfl
abbrev m5_bodyOf : JM := (yX5_bodyOf, cX5_bodyOf, 6, some .int, RX5)
theorem sm5_bodyOf : jMs m5_bodyOf 2 := ⟨jWd_t3 (i := 169) rfl rfl, jWd_t1 (i := 8) rfl rfl, by decide +kernel, by decide, rfl⟩
theorem sm5_bodyOf_w : jWd (.static m5_bodyOf.1) := jWd_t3 (i := 168) rfl rfl
theorem lX5_48 : jWd (.methodLink "MoonRooms$Speaker" 48 yX5_bodyOf) := jWd_t3 (i := 167) rfl rfl
theorem wX5_14 : jFd "MoonRooms$Speaker" 14 5 0 (.object "MoonRooms$Row") true := ⟨RX5, TX5, 4, tyX5, jcl_X5, by decide, ⟨rfl, rfl⟩, (Or.inl (jWd_t1 (i := 171) rfl rfl))⟩
theorem jo_cPl_66 : jO cPl 66 5 = true := by decide +kernel
theorem jr_66_0 : jrf 66 0 = 67 := by decide +kernel
theorem lX5_52 : jWd (.methodLink "MoonRooms$Speaker" 52 yX3_add) := jWd_t3 (i := 173) rfl rfl
theorem jo_cPl_67 : jO cPl 67 3 = true := by decide +kernel
theorem wX5_34 : jFd "MoonRooms$Speaker" 34 5 2 (.int) false := ⟨RX5, TX5, 4, tyX5, jcl_X5, by decide, ⟨rfl, rfl⟩, (Or.inl (jWd_t1 (i := 174) rfl rfl))⟩
theorem wX5_29 : jFd "MoonRooms$Speaker" 29 5 1 (.int) false := ⟨RX5, TX5, 4, tyX5, jcl_X5, by decide, ⟨rfl, rfl⟩, (Or.inl (jWd_t1 (i := 173) rfl rfl))⟩
theorem lX5_37 : jWd (.methodLink "MoonRooms$Speaker" 37 yX5_say) := jWd_t3 (i := 163) rfl rfl
abbrev m5_say : JM := (yX5_say, cX5_say, 7, some .int, RX5)
theorem sm5_say : jMs m5_say 4 := ⟨jWd_t3 (i := 166) rfl rfl, jWd_t1 (i := 8) rfl rfl, by decide +kernel, by decide, rfl⟩
theorem sm5_say_w : jWd (.instanceMethod m5_say.1) ∧ jWd (.selects m5_say.1.cls m5_say.1 m5_say.1) := ⟨jWd_t3 (i := 165) rfl rfl, jWd_sel (i := 17) (n := 4) rfl⟩
theorem wX5_33 : jFd "MoonRooms$Speaker" 33 5 3 (.int) false := ⟨RX5, TX5, 4, tyX5, jcl_X5, by decide, ⟨rfl, rfl⟩, (Or.inl (jWd_t1 (i := 175) rfl rfl))⟩
theorem lX5_20 : jWd (.methodLink "MoonRooms$Speaker" 20 yX3_empty) := jWd_t3 (i := 162) rfl rfl
theorem wX5_23 : jFd "MoonRooms$Speaker" 23 6 0 (.int) false := ⟨RX6, TX6, 5, tyX6, jcl_X6, by decide, ⟨rfl, rfl⟩, (Or.inr ⟨"MoonRooms", jWd_t1 (i := 80) rfl rfl⟩)⟩
theorem wX5_30 : jFd "MoonRooms$Speaker" 30 6 1 (.int) false := ⟨RX6, TX6, 5, tyX6, jcl_X6, by decide, ⟨rfl, rfl⟩, (Or.inr ⟨"MoonRooms", jWd_t1 (i := 84) rfl rfl⟩)⟩
abbrev m5_speak : JM := (yX5_speak, cX5_speak, 5, some .int, RX5)
theorem sm5_speak : jMs m5_speak 4 := ⟨jWd_t3 (i := 161) rfl rfl, jWd_t1 (i := 8) rfl rfl, by decide +kernel, by decide, rfl⟩
theorem sm5_speak_w : jWd (.instanceMethod m5_speak.1) ∧ jWd (.selects m5_speak.1.cls m5_speak.1 m5_speak.1) := ⟨jWd_t3 (i := 159) rfl rfl, jWd_t3 (i := 160) rfl rfl⟩
theorem wX7_14 : jFd "MoonRooms$Wishes" 14 7 0 (.object "MoonRooms$Row") true := ⟨RX7, TX7, 1, tyX7, jcl_X7, by decide, ⟨rfl, rfl⟩, (Or.inl (jWd_t1 (i := 193) rfl rfl))⟩
theorem jo_cPl_69 : jO cPl 69 7 = true := by decide +kernel
theorem jr_69_0 : jrf 69 0 = 70 := by decide +kernel
theorem wX7_20 : jFd "MoonRooms$Wishes" 20 3 1 (.int) false := ⟨RX3, TX3, 2, tyX3, jcl_X3, by decide, ⟨rfl, rfl⟩, (Or.inr ⟨"MoonRooms", jWd_t1 (i := 44) rfl rfl⟩)⟩
theorem jo_cPl_70 : jO cPl 70 3 = true := by decide +kernel
theorem lX7_42 : jWd (.methodLink "MoonRooms$Wishes" 42 yX3_get) := jWd_t3 (i := 126) rfl rfl
abbrev m7_wishedBy : JM := (yX7_wishedBy, cX7_wishedBy, 4, some .int, RX7)
theorem sm7_wishedBy : jMs m7_wishedBy 1 := ⟨jWd_t3 (i := 125) rfl rfl, jWd_t1 (i := 9) rfl rfl, by decide +kernel, by decide, rfl⟩
theorem sm7_wishedBy_w : jWd (.instanceMethod m7_wishedBy.1) ∧ jWd (.selects m7_wishedBy.1.cls m7_wishedBy.1 m7_wishedBy.1) := ⟨jWd_t3 (i := 124) rfl rfl, jWd_sel (i := 15) (n := 1) rfl⟩
theorem lX7_24 : jWd (.methodLink "MoonRooms$Wishes" 24 Lib.Math.max.name) := jWd_t3 (i := 121) rfl rfl
theorem lX7_30 : jWd (.methodLink "MoonRooms$Wishes" 30 yX7_wishedBy) := jWd_t3 (i := 122) rfl rfl
theorem lX7_34 : jWd (.methodLink "MoonRooms$Wishes" 34 yJ6_bitCount_0f7a4) := jWd_t3 (i := 127) rfl rfl
theorem lX7_39 : jWd (.methodLink "MoonRooms$Wishes" 39 Lib.Math.min.name) := jWd_t3 (i := 128) rfl rfl
abbrev m7_mostFrom : JM := (yX7_mostFrom, cX7_mostFrom, 7, some .int, RX7)
theorem sm7_mostFrom : jMs m7_mostFrom 2 := ⟨jWd_t3 (i := 120) rfl rfl, jWd_t1 (i := 9) rfl rfl, by decide +kernel, by decide, rfl⟩
theorem sm7_mostFrom_w : jWd (.instanceMethod m7_mostFrom.1) ∧ jWd (.selects m7_mostFrom.1.cls m7_mostFrom.1 m7_mostFrom.1) := ⟨jWd_t3 (i := 118) rfl rfl, jWd_t3 (i := 119) rfl rfl⟩
theorem lX7_48 : jWd (.methodLink "MoonRooms$Wishes" 48 yX7_mostFrom) := jWd_t3 (i := 137) rfl rfl
abbrev m7_firstRoom : JM := (yX7_firstRoom, cX7_firstRoom, 6, some .int, RX7)
theorem sm7_firstRoom : jMs m7_firstRoom 2 := ⟨jWd_t3 (i := 136) rfl rfl, jWd_t1 (i := 9) rfl rfl, by decide +kernel, by decide, rfl⟩
theorem sm7_firstRoom_w : jWd (.instanceMethod m7_firstRoom.1) ∧ jWd (.selects m7_firstRoom.1.cls m7_firstRoom.1 m7_firstRoom.1) := ⟨jWd_t3 (i := 135) rfl rfl, jWd_sel (i := 16) (n := 1) rfl⟩
theorem lX7_45 : jWd (.methodLink "MoonRooms$Wishes" 45 yX7_firstRoom) := jWd_t3 (i := 133) rfl rfl
abbrev m7_roomOf : JM := (yX7_roomOf, cX7_roomOf, 5, some .int, RX7)
theorem sm7_roomOf : jMs m7_roomOf 1 := ⟨jWd_t3 (i := 132) rfl rfl, jWd_t1 (i := 9) rfl rfl, by decide +kernel, by decide, rfl⟩
theorem sm7_roomOf_w : jWd (.instanceMethod m7_roomOf.1) ∧ jWd (.selects m7_roomOf.1.cls m7_roomOf.1 m7_roomOf.1) := ⟨jWd_t3 (i := 130) rfl rfl, jWd_t3 (i := 131) rfl rfl⟩
theorem kX8_274 : jWd (.constant "MoonRooms" 274 (65793)) := jWd_t2 (i := 20) rfl rfl
theorem gX8_123 : jWd (.fieldLink "MoonRooms" 123 "MoonRooms" "ABOVE" "[I") := jWd_t2 (i := 85) rfl rfl
abbrev m8_isOutside : JM := (yX8_isOutside, cX8_isOutside, 3, some .boolean, RX8)
theorem sm8_isOutside : jMs m8_isOutside 3 := ⟨jWd_t2 (i := 10) rfl rfl, jWd_t1 (i := 1) rfl rfl, by decide +kernel, by decide, rfl⟩
theorem sm8_isOutside_w : jWd (.static m8_isOutside.1) := jWd_t2 (i := 9) rfl rfl
theorem kX8_273 : jWd (.constant "MoonRooms" 273 (-1000000000)) := jWd_t2 (i := 16) rfl rfl
theorem wX8_49 : jFd "MoonRooms" 49 8 7 (.array .int) true := ⟨RX8, TX8, 9, tyX8, jcl_X8, by decide, ⟨rfl, rfl⟩, (Or.inl (jWd_t1 (i := 223) rfl rfl))⟩
theorem jo_cPl_0 : jO cPl 0 8 = true := by decide +kernel
theorem jr_0_7 : jrf 0 7 = 85 := by decide +kernel
theorem ji_cPl_85 : jI cPl 85 = true := by decide +kernel
theorem jl_85 : jlen 85 = 6 := by decide +kernel
abbrev m8_fail : JM := (yX8_fail, cX8_fail, 3, some .int, RX8)
theorem sm8_fail : jMs m8_fail 1 := ⟨jWd_t2 (i := 15) rfl rfl, jWd_t1 (i := 1) rfl rfl, by decide +kernel, by decide, rfl⟩
theorem sm8_fail_w : jWd (.instanceMethod m8_fail.1) ∧ jWd (.selects m8_fail.1.cls m8_fail.1 m8_fail.1) := ⟨jWd_t2 (i := 14) rfl rfl, jWd_sel (i := 0) (n := 9) rfl⟩
theorem lX8_54 : jWd (.methodLink "MoonRooms" 54 yX8_isOutside) := jWd_t2 (i := 8) rfl rfl
theorem wX8_12 : jFd "MoonRooms" 12 8 0 (.object "MoonRooms$House") true := ⟨RX8, TX8, 9, tyX8, jcl_X8, by decide, ⟨rfl, rfl⟩, (Or.inl (jWd_t1 (i := 216) rfl rfl))⟩
theorem jr_0_0 : jrf 0 0 = 1 := by decide +kernel
theorem wX8_63 : jFd "MoonRooms" 63 0 0 (.int) false := ⟨RX0, TX0, 9, tyX0, jcl_X0, by decide, ⟨rfl, rfl⟩, (Or.inr ⟨"MoonRooms", jWd_t1 (i := 108) rfl rfl⟩)⟩
theorem jo_cPl_1 : jO cPl 1 0 = true := by decide +kernel
theorem lX8_67 : jWd (.methodLink "MoonRooms" 67 yX8_litBy) := jWd_t2 (i := 17) rfl rfl
theorem lX8_70 : jWd (.methodLink "MoonRooms" 70 yX0_seenIn) := jWd_t2 (i := 21) rfl rfl
theorem lX8_73 : jWd (.methodLink "MoonRooms" 73 yX0_rentTogether) := jWd_t2 (i := 51) rfl rfl
theorem lX8_76 : jWd (.methodLink "MoonRooms" 76 yX0_holdersOf) := jWd_t2 (i := 69) rfl rfl
theorem kX8_58 : jWd (.constant "MoonRooms" 58 (-1000000001)) := jWd_t2 (i := 11) rfl rfl
theorem lX8_59 : jWd (.methodLink "MoonRooms" 59 yX8_fail) := jWd_t2 (i := 12) rfl rfl
abbrev m8_ofCell : JM := (yX8_ofCell, cX8_ofCell, 3, some .int, RX8)
theorem sm8_ofCell : jMs m8_ofCell 2 := ⟨jWd_t2 (i := 7) rfl rfl, jWd_t1 (i := 1) rfl rfl, by decide +kernel, by decide, rfl⟩
theorem sm8_ofCell_w : jWd (.instanceMethod m8_ofCell.1) ∧ jWd (.selects m8_ofCell.1.cls m8_ofCell.1 m8_ofCell.1) := ⟨jWd_t2 (i := 5) rfl rfl, jWd_t2 (i := 6) rfl rfl⟩
abbrev m8_lit : JM := (yX8_lit, cX8_lit, 2, some .int, RX8)
theorem sm8_lit : jMs m8_lit 1 := ⟨jWd_t2 (i := 73) rfl rfl, jWd_t1 (i := 1) rfl rfl, by decide +kernel, by decide, rfl⟩
theorem sm8_lit_w : jWd (.instanceMethod m8_lit.1) ∧ jWd (.selects m8_lit.1.cls m8_lit.1 m8_lit.1) := ⟨jWd_t2 (i := 71) rfl rfl, jWd_t2 (i := 72) rfl rfl⟩
theorem wX8_79 : jFd "MoonRooms" 79 0 1 (.int) false := ⟨RX0, TX0, 9, tyX0, jcl_X0, by decide, ⟨rfl, rfl⟩, (Or.inr ⟨"MoonRooms", jWd_t1 (i := 110) rfl rfl⟩)⟩
abbrev m8_weather : JM := (yX8_weather, cX8_weather, 3, some .int, RX8)
theorem sm8_weather : jMs m8_weather 1 := ⟨jWd_t2 (i := 77) rfl rfl, jWd_t1 (i := 1) rfl rfl, by decide +kernel, by decide, rfl⟩
theorem sm8_weather_w : jWd (.instanceMethod m8_weather.1) ∧ jWd (.selects m8_weather.1.cls m8_weather.1 m8_weather.1) := ⟨jWd_t2 (i := 75) rfl rfl, jWd_t2 (i := 76) rfl rfl⟩
abbrev m8_isNoKind : JM := (yX8_isNoKind, cX8_isNoKind, 1, some .boolean, RX8)
theorem sm8_isNoKind : jMs m8_isNoKind 1 := ⟨jWd_t2 (i := 84) rfl rfl, jWd_t1 (i := 1) rfl rfl, by decide +kernel, by decide, rfl⟩
theorem sm8_isNoKind_w : jWd (.static m8_isNoKind.1) := jWd_t2 (i := 83) rfl rfl
theorem lX8_82 : jWd (.methodLink "MoonRooms" 82 yX8_isNoKind) := jWd_t2 (i := 82) rfl rfl
theorem lX8_86 : jWd (.methodLink "MoonRooms" 86 yX0_takeIn) := jWd_t2 (i := 87) rfl rfl
theorem kX8_90 : jWd (.constant "MoonRooms" 90 (-1000000004)) := jWd_t2 (i := 91) rfl rfl
abbrev m8_tenant : JM := (yX8_tenant, cX8_tenant, 3, some .int, RX8)
theorem sm8_tenant : jMs m8_tenant 1 := ⟨jWd_t2 (i := 81) rfl rfl, jWd_t1 (i := 1) rfl rfl, by decide +kernel, by decide, rfl⟩
theorem sm8_tenant_w : jWd (.instanceMethod m8_tenant.1) ∧ jWd (.selects m8_tenant.1.cls m8_tenant.1 m8_tenant.1) := ⟨jWd_t2 (i := 79) rfl rfl, jWd_t2 (i := 80) rfl rfl⟩
theorem lX8_91 : jWd (.methodLink "MoonRooms" 91 yX0_find) := jWd_t2 (i := 96) rfl rfl
theorem wX8_95 : jFd "MoonRooms" 95 6 0 (.int) false := ⟨RX6, TX6, 5, tyX6, jcl_X6, by decide, ⟨rfl, rfl⟩, (Or.inr ⟨"MoonRooms", jWd_t1 (i := 82) rfl rfl⟩)⟩
theorem wX8_100 : jFd "MoonRooms" 100 6 1 (.int) false := ⟨RX6, TX6, 5, tyX6, jcl_X6, by decide, ⟨rfl, rfl⟩, (Or.inr ⟨"MoonRooms", jWd_t1 (i := 86) rfl rfl⟩)⟩
theorem wX8_103 : jFd "MoonRooms" 103 6 2 (.int) false := ⟨RX6, TX6, 5, tyX6, jcl_X6, by decide, ⟨rfl, rfl⟩, (Or.inr ⟨"MoonRooms", jWd_t1 (i := 89) rfl rfl⟩)⟩
theorem wX8_106 : jFd "MoonRooms" 106 6 3 (.int) false := ⟨RX6, TX6, 5, tyX6, jcl_X6, by decide, ⟨rfl, rfl⟩, (Or.inr ⟨"MoonRooms", jWd_t1 (i := 92) rfl rfl⟩)⟩
theorem kX8_109 : jWd (.constant "MoonRooms" 109 (100000)) := jWd_t2 (i := 97) rfl rfl
theorem wX8_110 : jFd "MoonRooms" 110 6 4 (.boolean) false := ⟨RX6, TX6, 5, tyX6, jcl_X6, by decide, ⟨rfl, rfl⟩, (Or.inr ⟨"MoonRooms", jWd_t1 (i := 95) rfl rfl⟩)⟩
theorem lX8_114 : jWd (.methodLink "MoonRooms" 114 yX6_looksIn) := jWd_t2 (i := 98) rfl rfl
theorem lX8_117 : jWd (.methodLink "MoonRooms" 117 yX0_sharersWith) := jWd_t2 (i := 103) rfl rfl
theorem lX8_120 : jWd (.methodLink "MoonRooms" 120 yX6_owesBy) := jWd_t2 (i := 107) rfl rfl
abbrev m8_ofTenant : JM := (yX8_ofTenant, cX8_ofTenant, 4, some .int, RX8)
theorem sm8_ofTenant : jMs m8_ofTenant 2 := ⟨jWd_t2 (i := 95) rfl rfl, jWd_t1 (i := 1) rfl rfl, by decide +kernel, by decide, rfl⟩
theorem sm8_ofTenant_w : jWd (.instanceMethod m8_ofTenant.1) ∧ jWd (.selects m8_ofTenant.1.cls m8_ofTenant.1 m8_ofTenant.1) := ⟨jWd_t2 (i := 93) rfl rfl, jWd_t2 (i := 94) rfl rfl⟩
abbrev m8_become : JM := (yX8_become, cX8_become, 5, some .int, RX8)
theorem sm8_become : jMs m8_become 2 := ⟨jWd_t2 (i := 115) rfl rfl, jWd_t1 (i := 1) rfl rfl, by decide +kernel, by decide, rfl⟩
theorem sm8_become_w : jWd (.instanceMethod m8_become.1) ∧ jWd (.selects m8_become.1.cls m8_become.1 m8_become.1) := ⟨jWd_t2 (i := 113) rfl rfl, jWd_t2 (i := 114) rfl rfl⟩
theorem lX8_126 : jWd (.methodLink "MoonRooms" 126 yX8_isUnder) := jWd_t2 (i := 120) rfl rfl
theorem kX8_130 : jWd (.constant "MoonRooms" 130 (-1000000005)) := jWd_t2 (i := 123) rfl rfl
abbrev m8_as : JM := (yX8_as, cX8_as, 4, some .int, RX8)
theorem sm8_as : jMs m8_as 2 := ⟨jWd_t2 (i := 119) rfl rfl, jWd_t1 (i := 1) rfl rfl, by decide +kernel, by decide, rfl⟩
theorem sm8_as_w : jWd (.instanceMethod m8_as.1) ∧ jWd (.selects m8_as.1.cls m8_as.1 m8_as.1) := ⟨jWd_t2 (i := 117) rfl rfl, jWd_t2 (i := 118) rfl rfl⟩
theorem kX8_234 : jWd (.constant "MoonRooms" 234 (16777215)) := jWd_t2 (i := 131) rfl rfl
abbrev m8_isNoSet : JM := (yX8_isNoSet, cX8_isNoSet, 1, some .boolean, RX8)
theorem sm8_isNoSet : jMs m8_isNoSet 1 := ⟨jWd_t2 (i := 130) rfl rfl, jWd_t1 (i := 1) rfl rfl, by decide +kernel, by decide, rfl⟩
theorem sm8_isNoSet_w : jWd (.static m8_isNoSet.1) := jWd_t2 (i := 129) rfl rfl
theorem lX8_131 : jWd (.methodLink "MoonRooms" 131 yX8_isNoSet) := jWd_t2 (i := 128) rfl rfl
theorem kX8_134 : jWd (.constant "MoonRooms" 134 (-1000000003)) := jWd_t2 (i := 132) rfl rfl
abbrev m8_lease : JM := (yX8_lease, cX8_lease, 5, some .int, RX8)
theorem sm8_lease : jMs m8_lease 2 := ⟨jWd_t2 (i := 127) rfl rfl, jWd_t1 (i := 1) rfl rfl, by decide +kernel, by decide, rfl⟩
theorem sm8_lease_w : jWd (.instanceMethod m8_lease.1) ∧ jWd (.selects m8_lease.1.cls m8_lease.1 m8_lease.1) := ⟨jWd_t2 (i := 125) rfl rfl, jWd_t2 (i := 126) rfl rfl⟩
abbrev m8_purse : JM := (yX8_purse, cX8_purse, 5, some .int, RX8)
theorem sm8_purse : jMs m8_purse 2 := ⟨jWd_t2 (i := 136) rfl rfl, jWd_t1 (i := 1) rfl rfl, by decide +kernel, by decide, rfl⟩
theorem sm8_purse_w : jWd (.instanceMethod m8_purse.1) ∧ jWd (.selects m8_purse.1.cls m8_purse.1 m8_purse.1) := ⟨jWd_t2 (i := 134) rfl rfl, jWd_t2 (i := 135) rfl rfl⟩
theorem lX8_135 : jWd (.methodLink "MoonRooms" 135 yX0_howManyEvicted) := jWd_t2 (i := 141) rfl rfl
abbrev m8_pardon : JM := (yX8_pardon, cX8_pardon, 3, some .int, RX8)
theorem sm8_pardon : jMs m8_pardon 1 := ⟨jWd_t2 (i := 140) rfl rfl, jWd_t1 (i := 1) rfl rfl, by decide +kernel, by decide, rfl⟩
theorem sm8_pardon_w : jWd (.instanceMethod m8_pardon.1) ∧ jWd (.selects m8_pardon.1.cls m8_pardon.1 m8_pardon.1) := ⟨jWd_t2 (i := 138) rfl rfl, jWd_t2 (i := 139) rfl rfl⟩
theorem wX8_139 : jFd "MoonRooms" 139 0 5 (.object "MoonRooms$Row") true := ⟨RX0, TX0, 9, tyX0, jcl_X0, by decide, ⟨rfl, rfl⟩, (Or.inr ⟨"MoonRooms", jWd_t1 (i := 117) rfl rfl⟩)⟩
theorem jr_1_5 : jrf 1 5 = 9 := by decide +kernel
theorem wX8_143 : jFd "MoonRooms" 143 3 1 (.int) false := ⟨RX3, TX3, 2, tyX3, jcl_X3, by decide, ⟨rfl, rfl⟩, (Or.inr ⟨"MoonRooms", jWd_t1 (i := 48) rfl rfl⟩)⟩
theorem jo_cPl_9 : jO cPl 9 3 = true := by decide +kernel
theorem kX8_148 : jWd (.constantLong "MoonRooms" 148 (255)) := jWd_t2 (i := 149) rfl rfl
theorem lX8_150 : jWd (.methodLink "MoonRooms" 150 yX3_add) := jWd_t2 (i := 150) rfl rfl
abbrev m8_feed : JM := (yX8_feed, cX8_feed, 5, some .int, RX8)
theorem sm8_feed : jMs m8_feed 2 := ⟨jWd_t2 (i := 148) rfl rfl, jWd_t1 (i := 1) rfl rfl, by decide +kernel, by decide, rfl⟩
theorem sm8_feed_w : jWd (.instanceMethod m8_feed.1) ∧ jWd (.selects m8_feed.1.cls m8_feed.1 m8_feed.1) := ⟨jWd_t2 (i := 146) rfl rfl, jWd_t2 (i := 147) rfl rfl⟩
abbrev m8_isNoUse : JM := (yX8_isNoUse, cX8_isNoUse, 1, some .boolean, RX8)
theorem sm8_isNoUse : jMs m8_isNoUse 1 := ⟨jWd_t2 (i := 160) rfl rfl, jWd_t1 (i := 1) rfl rfl, by decide +kernel, by decide, rfl⟩
theorem sm8_isNoUse_w : jWd (.static m8_isNoUse.1) := jWd_t2 (i := 159) rfl rfl
theorem lX8_153 : jWd (.methodLink "MoonRooms" 153 yX8_isNoUse) := jWd_t2 (i := 158) rfl rfl
theorem wX8_25 : jFd "MoonRooms" 25 8 3 (.object "MoonRooms$Reader") true := ⟨RX8, TX8, 9, tyX8, jcl_X8, by decide, ⟨rfl, rfl⟩, (Or.inl (jWd_t1 (i := 219) rfl rfl))⟩
theorem jr_0_3 : jrf 0 3 = 61 := by decide +kernel
theorem lX8_156 : jWd (.methodLink "MoonRooms" 156 yX2_read) := jWd_t2 (i := 161) rfl rfl
theorem lX8_160 : jWd (.methodLink "MoonRooms" 160 yX3_empty) := jWd_t2 (i := 221) rfl rfl
theorem lX8_163 : jWd (.methodLink "MoonRooms" 163 yX0_lawOf) := jWd_t2 (i := 222) rfl rfl
theorem wX8_167 : jFd "MoonRooms" 167 2 1 (.object "MoonRooms$Row") true := ⟨RX2, TX2, 4, tyX2, jcl_X2, by decide, ⟨rfl, rfl⟩, (Or.inr ⟨"MoonRooms", jWd_t1 (i := 151) rfl rfl⟩)⟩
theorem lX8_170 : jWd (.methodLink "MoonRooms" 170 yX1_copyFrom) := jWd_t2 (i := 226) rfl rfl
abbrev m8_text : JM := (yX8_text, cX8_text, 3, some .int, RX8)
theorem sm8_text : jMs m8_text 1 := ⟨jWd_t2 (i := 157) rfl rfl, jWd_t1 (i := 1) rfl rfl, by decide +kernel, by decide, rfl⟩
theorem sm8_text_w : jWd (.instanceMethod m8_text.1) ∧ jWd (.selects m8_text.1.cls m8_text.1 m8_text.1) := ⟨jWd_t2 (i := 155) rfl rfl, jWd_t2 (i := 156) rfl rfl⟩
theorem lX8_176 : jWd (.methodLink "MoonRooms" 176 yX1_rule) := jWd_t2 (i := 235) rfl rfl
abbrev m8_law : JM := (yX8_law, cX8_law, 5, some .int, RX8)
theorem sm8_law : jMs m8_law 4 := ⟨jWd_t2 (i := 234) rfl rfl, jWd_t1 (i := 1) rfl rfl, by decide +kernel, by decide, rfl⟩
theorem sm8_law_w : jWd (.instanceMethod m8_law.1) ∧ jWd (.selects m8_law.1.cls m8_law.1 m8_law.1) := ⟨jWd_t2 (i := 232) rfl rfl, jWd_t2 (i := 233) rfl rfl⟩
theorem lX8_180 : jWd (.methodLink "MoonRooms" 180 yX0_passNights) := jWd_t3 (i := 0) rfl rfl
abbrev m8_nights : JM := (yX8_nights, cX8_nights, 2, some .int, RX8)
theorem sm8_nights : jMs m8_nights 1 := ⟨jWd_t2 (i := 239) rfl rfl, jWd_t1 (i := 1) rfl rfl, by decide +kernel, by decide, rfl⟩
theorem sm8_nights_w : jWd (.instanceMethod m8_nights.1) ∧ jWd (.selects m8_nights.1.cls m8_nights.1 m8_nights.1) := ⟨jWd_t2 (i := 237) rfl rfl, jWd_t2 (i := 238) rfl rfl⟩
theorem lX8_184 : jWd (.methodLink "MoonRooms" 184 yX0_drawNight) := jWd_t3 (i := 35) rfl rfl
abbrev m8_loose : JM := (yX8_loose, cX8_loose, 3, some .int, RX8)
theorem sm8_loose : jMs m8_loose 1 := ⟨jWd_t3 (i := 34) rfl rfl, jWd_t1 (i := 1) rfl rfl, by decide +kernel, by decide, rfl⟩
theorem sm8_loose_w : jWd (.instanceMethod m8_loose.1) ∧ jWd (.selects m8_loose.1.cls m8_loose.1 m8_loose.1) := ⟨jWd_t3 (i := 32) rfl rfl, jWd_t3 (i := 33) rfl rfl⟩
theorem wX8_19 : jFd "MoonRooms" 19 8 2 (.object "MoonRooms$House") true := ⟨RX8, TX8, 9, tyX8, jcl_X8, by decide, ⟨rfl, rfl⟩, (Or.inl (jWd_t1 (i := 218) rfl rfl))⟩
theorem jr_0_2 : jrf 0 2 = 41 := by decide +kernel
theorem lX8_187 : jWd (.methodLink "MoonRooms" 187 yX0_copyFrom) := jWd_t3 (i := 48) rfl rfl
theorem jo_cPl_41 : jO cPl 41 0 = true := by decide +kernel
abbrev m8_then : JM := (yX8_then, cX8_then, 5, some .int, RX8)
theorem sm8_then : jMs m8_then 3 := ⟨jWd_t3 (i := 47) rfl rfl, jWd_t1 (i := 1) rfl rfl, by decide +kernel, by decide, rfl⟩
theorem sm8_then_w : jWd (.instanceMethod m8_then.1) ∧ jWd (.selects m8_then.1.cls m8_then.1 m8_then.1) := ⟨jWd_t3 (i := 45) rfl rfl, jWd_t3 (i := 46) rfl rfl⟩
abbrev m8_often : JM := (yX8_often, cX8_often, 7, some .int, RX8)
theorem sm8_often : jMs m8_often 2 := ⟨jWd_t3 (i := 61) rfl rfl, jWd_t1 (i := 1) rfl rfl, by decide +kernel, by decide, rfl⟩
theorem sm8_often_w : jWd (.instanceMethod m8_often.1) ∧ jWd (.selects m8_often.1.cls m8_often.1 m8_often.1) := ⟨jWd_t3 (i := 59) rfl rfl, jWd_t3 (i := 60) rfl rfl⟩
theorem kX8_190 : jWd (.constant "MoonRooms" 190 (-1000000002)) := jWd_t3 (i := 66) rfl rfl
abbrev m8_whole : JM := (yX8_whole, cX8_whole, 4, some .int, RX8)
theorem sm8_whole : jMs m8_whole 1 := ⟨jWd_t3 (i := 65) rfl rfl, jWd_t1 (i := 1) rfl rfl, by decide +kernel, by decide, rfl⟩
theorem sm8_whole_w : jWd (.instanceMethod m8_whole.1) ∧ jWd (.selects m8_whole.1.cls m8_whole.1 m8_whole.1) := ⟨jWd_t3 (i := 63) rfl rfl, jWd_t3 (i := 64) rfl rfl⟩
abbrev m8_stays : JM := (yX8_stays, cX8_stays, 5, some .int, RX8)
theorem sm8_stays : jMs m8_stays 1 := ⟨jWd_t3 (i := 70) rfl rfl, jWd_t1 (i := 1) rfl rfl, by decide +kernel, by decide, rfl⟩
theorem sm8_stays_w : jWd (.instanceMethod m8_stays.1) ∧ jWd (.selects m8_stays.1.cls m8_stays.1 m8_stays.1) := ⟨jWd_t3 (i := 68) rfl rfl, jWd_t3 (i := 69) rfl rfl⟩
theorem wX8_191 : jFd "MoonRooms" 191 0 3 (.int) false := ⟨RX0, TX0, 9, tyX0, jcl_X0, by decide, ⟨rfl, rfl⟩, (Or.inr ⟨"MoonRooms", jWd_t1 (i := 114) rfl rfl⟩)⟩
theorem lX8_194 : jWd (.methodLink "MoonRooms" 194 yX0_clashersWith) := jWd_t3 (i := 75) rfl rfl
theorem lX8_197 : jWd (.methodLink "MoonRooms" 197 yJ6_bitCount_0f7a4) := jWd_t3 (i := 80) rfl rfl
abbrev m8_clash : JM := (yX8_clash, cX8_clash, 3, some .int, RX8)
theorem sm8_clash : jMs m8_clash 0 := ⟨jWd_t3 (i := 74) rfl rfl, jWd_t1 (i := 1) rfl rfl, by decide +kernel, by decide, rfl⟩
theorem sm8_clash_w : jWd (.instanceMethod m8_clash.1) ∧ jWd (.selects m8_clash.1.cls m8_clash.1 m8_clash.1) := ⟨jWd_t3 (i := 72) rfl rfl, jWd_t3 (i := 73) rfl rfl⟩
theorem lX8_202 : jWd (.methodLink "MoonRooms" 202 yX0_leastToGiveUp) := jWd_t3 (i := 85) rfl rfl
abbrev m8_least : JM := (yX8_least, cX8_least, 3, some .int, RX8)
theorem sm8_least : jMs m8_least 1 := ⟨jWd_t3 (i := 84) rfl rfl, jWd_t1 (i := 1) rfl rfl, by decide +kernel, by decide, rfl⟩
theorem sm8_least_w : jWd (.instanceMethod m8_least.1) ∧ jWd (.selects m8_least.1.cls m8_least.1 m8_least.1) := ⟨jWd_t3 (i := 82) rfl rfl, jWd_t3 (i := 83) rfl rfl⟩
theorem kX8_275 : jWd (.constant "MoonRooms" 275 (-8421505)) := jWd_t3 (i := 101) rfl rfl
theorem kX8_276 : jWd (.constant "MoonRooms" 276 (-65794)) := jWd_t3 (i := 102) rfl rfl
abbrev m8_besideCells : JM := (yX8_besideCells, cX8_besideCells, 3, some .int, RX8)
theorem sm8_besideCells : jMs m8_besideCells 1 := ⟨jWd_t3 (i := 100) rfl rfl, jWd_t1 (i := 1) rfl rfl, by decide +kernel, by decide, rfl⟩
theorem sm8_besideCells_w : jWd (.static m8_besideCells.1) := jWd_t3 (i := 99) rfl rfl
theorem lX8_205 : jWd (.methodLink "MoonRooms" 205 yX8_besideCells) := jWd_t3 (i := 98) rfl rfl
theorem lX8_208 : jWd (.methodLink "MoonRooms" 208 yX0_heldByOthers) := jWd_t3 (i := 103) rfl rfl
abbrev m8_beside : JM := (yX8_beside, cX8_beside, 3, some .int, RX8)
theorem sm8_beside : jMs m8_beside 1 := ⟨jWd_t3 (i := 97) rfl rfl, jWd_t1 (i := 1) rfl rfl, by decide +kernel, by decide, rfl⟩
theorem sm8_beside_w : jWd (.instanceMethod m8_beside.1) ∧ jWd (.selects m8_beside.1.cls m8_beside.1 m8_beside.1) := ⟨jWd_t3 (i := 95) rfl rfl, jWd_t3 (i := 96) rfl rfl⟩
theorem wX8_45 : jFd "MoonRooms" 45 8 6 (.array (.object "MoonRooms$Sheet")) true := ⟨RX8, TX8, 9, tyX8, jcl_X8, by decide, ⟨rfl, rfl⟩, (Or.inl (jWd_t1 (i := 222) rfl rfl))⟩
theorem jr_0_6 : jrf 0 6 = 72 := by decide +kernel
theorem jq_cPl_72 : jQr cPl 72 2 = true := by decide +kernel
theorem jl_72 : jlen 72 = 4 := by decide +kernel
abbrev m8_findSheet : JM := (yX8_findSheet, cX8_findSheet, 2, some (.object "MoonRooms$Sheet"), RX8)
theorem sm8_findSheet : jMs m8_findSheet 1 := ⟨jWd_t3 (i := 114) rfl rfl, jWd_t1 (i := 1) rfl rfl, by decide +kernel, by decide, rfl⟩
theorem sm8_findSheet_w : jWd (.instanceMethod m8_findSheet.1) ∧ jWd (.selects m8_findSheet.1.cls m8_findSheet.1 m8_findSheet.1) := ⟨jWd_t3 (i := 113) rfl rfl, jWd_sel (i := 14) (n := 9) rfl⟩
theorem lX8_211 : jWd (.methodLink "MoonRooms" 211 yX8_findSheet) := jWd_t3 (i := 111) rfl rfl
theorem wX8_215 : jFd "MoonRooms" 215 4 1 (.int) false := ⟨RX4, TX4, 2, tyX4, jcl_X4, by decide, ⟨rfl, rfl⟩, (Or.inr ⟨"MoonRooms", jWd_t1 (i := 210) rfl rfl⟩)⟩
theorem wX8_218 : jFd "MoonRooms" 218 4 0 (.object "MoonRooms$Row") true := ⟨RX4, TX4, 2, tyX4, jcl_X4, by decide, ⟨rfl, rfl⟩, (Or.inr ⟨"MoonRooms", jWd_t1 (i := 208) rfl rfl⟩)⟩
theorem wX8_39 : jFd "MoonRooms" 39 8 5 (.object "MoonRooms$Wishes") true := ⟨RX8, TX8, 9, tyX8, jcl_X8, by decide, ⟨rfl, rfl⟩, (Or.inl (jWd_t1 (i := 221) rfl rfl))⟩
theorem jr_0_5 : jrf 0 5 = 69 := by decide +kernel
theorem wX8_224 : jFd "MoonRooms" 224 7 0 (.object "MoonRooms$Row") true := ⟨RX7, TX7, 1, tyX7, jcl_X7, by decide, ⟨rfl, rfl⟩, (Or.inr ⟨"MoonRooms", jWd_t1 (i := 194) rfl rfl⟩)⟩
theorem lX8_227 : jWd (.methodLink "MoonRooms" 227 yX3_copyFrom) := jWd_t3 (i := 116) rfl rfl
theorem lX8_231 : jWd (.methodLink "MoonRooms" 231 yX7_roomOf) := jWd_t3 (i := 129) rfl rfl
theorem lX8_228 : jWd (.methodLink "MoonRooms" 228 yX7_mostFrom) := jWd_t3 (i := 117) rfl rfl
theorem lX8_221 : jWd (.methodLink "MoonRooms" 221 yX3_get) := jWd_t3 (i := 115) rfl rfl
abbrev m8_rooms : JM := (yX8_rooms, cX8_rooms, 5, some .int, RX8)
theorem sm8_rooms : jMs m8_rooms 2 := ⟨jWd_t3 (i := 110) rfl rfl, jWd_t1 (i := 1) rfl rfl, by decide +kernel, by decide, rfl⟩
theorem sm8_rooms_w : jWd (.instanceMethod m8_rooms.1) ∧ jWd (.selects m8_rooms.1.cls m8_rooms.1 m8_rooms.1) := ⟨jWd_t3 (i := 108) rfl rfl, jWd_t3 (i := 109) rfl rfl⟩
abbrev m8_falls : JM := (yX8_falls, cX8_falls, 4, some .int, RX8)
theorem sm8_falls : jMs m8_falls 2 := ⟨jWd_t3 (i := 141) rfl rfl, jWd_t1 (i := 1) rfl rfl, by decide +kernel, by decide, rfl⟩
theorem sm8_falls_w : jWd (.instanceMethod m8_falls.1) ∧ jWd (.selects m8_falls.1.cls m8_falls.1 m8_falls.1) := ⟨jWd_t3 (i := 139) rfl rfl, jWd_t3 (i := 140) rfl rfl⟩
abbrev m8_was : JM := (yX8_was, cX8_was, 7, some .int, RX8)
theorem sm8_was : jMs m8_was 1 := ⟨jWd_t3 (i := 145) rfl rfl, jWd_t1 (i := 1) rfl rfl, by decide +kernel, by decide, rfl⟩
theorem sm8_was_w : jWd (.instanceMethod m8_was.1) ∧ jWd (.selects m8_was.1.cls m8_was.1 m8_was.1) := ⟨jWd_t3 (i := 143) rfl rfl, jWd_t3 (i := 144) rfl rfl⟩
abbrev m8_dear : JM := (yX8_dear, cX8_dear, 7, some .int, RX8)
theorem sm8_dear : jMs m8_dear 1 := ⟨jWd_t3 (i := 149) rfl rfl, jWd_t1 (i := 1) rfl rfl, by decide +kernel, by decide, rfl⟩
theorem sm8_dear_w : jWd (.instanceMethod m8_dear.1) ∧ jWd (.selects m8_dear.1.cls m8_dear.1 m8_dear.1) := ⟨jWd_t3 (i := 147) rfl rfl, jWd_t3 (i := 148) rfl rfl⟩
theorem wX8_235 : jFd "MoonRooms" 235 0 2 (.int) false := ⟨RX0, TX0, 9, tyX0, jcl_X0, by decide, ⟨rfl, rfl⟩, (Or.inr ⟨"MoonRooms", jWd_t1 (i := 112) rfl rfl⟩)⟩
abbrev m8_seed : JM := (yX8_seed, cX8_seed, 3, some .int, RX8)
theorem sm8_seed : jMs m8_seed 1 := ⟨jWd_t3 (i := 153) rfl rfl, jWd_t1 (i := 1) rfl rfl, by decide +kernel, by decide, rfl⟩
theorem sm8_seed_w : jWd (.instanceMethod m8_seed.1) ∧ jWd (.selects m8_seed.1.cls m8_seed.1 m8_seed.1) := ⟨jWd_t3 (i := 151) rfl rfl, jWd_t3 (i := 152) rfl rfl⟩
theorem wX8_32 : jFd "MoonRooms" 32 8 4 (.object "MoonRooms$Speaker") true := ⟨RX8, TX8, 9, tyX8, jcl_X8, by decide, ⟨rfl, rfl⟩, (Or.inl (jWd_t1 (i := 220) rfl rfl))⟩
theorem jr_0_4 : jrf 0 4 = 66 := by decide +kernel
theorem lX8_238 : jWd (.methodLink "MoonRooms" 238 yX5_speak) := jWd_t3 (i := 158) rfl rfl
abbrev m8_voice : JM := (yX8_voice, cX8_voice, 5, some .int, RX8)
theorem sm8_voice : jMs m8_voice 3 := ⟨jWd_t3 (i := 157) rfl rfl, jWd_t1 (i := 1) rfl rfl, by decide +kernel, by decide, rfl⟩
theorem sm8_voice_w : jWd (.instanceMethod m8_voice.1) ∧ jWd (.selects m8_voice.1.cls m8_voice.1 m8_voice.1) := ⟨jWd_t3 (i := 155) rfl rfl, jWd_t3 (i := 156) rfl rfl⟩
theorem wX8_242 : jFd "MoonRooms" 242 5 0 (.object "MoonRooms$Row") true := ⟨RX5, TX5, 4, tyX5, jcl_X5, by decide, ⟨rfl, rfl⟩, (Or.inr ⟨"MoonRooms", jWd_t1 (i := 172) rfl rfl⟩)⟩
theorem lX8_245 : jWd (.methodLink "MoonRooms" 245 yX3_has) := jWd_t3 (i := 178) rfl rfl
abbrev m8_trace : JM := (yX8_trace, cX8_trace, 2, some .int, RX8)
theorem sm8_trace : jMs m8_trace 1 := ⟨jWd_t3 (i := 177) rfl rfl, jWd_t1 (i := 1) rfl rfl, by decide +kernel, by decide, rfl⟩
theorem sm8_trace_w : jWd (.instanceMethod m8_trace.1) ∧ jWd (.selects m8_trace.1.cls m8_trace.1 m8_trace.1) := ⟨jWd_t3 (i := 175) rfl rfl, jWd_t3 (i := 176) rfl rfl⟩
theorem lX8_248 : jWd (.methodLink "MoonRooms" 248 yX3_fillWithNone) := jWd_t3 (i := 183) rfl rfl
abbrev m8_sheet : JM := (yX8_sheet, cX8_sheet, 5, some .int, RX8)
theorem sm8_sheet : jMs m8_sheet 3 := ⟨jWd_t3 (i := 182) rfl rfl, jWd_t1 (i := 1) rfl rfl, by decide +kernel, by decide, rfl⟩
theorem sm8_sheet_w : jWd (.instanceMethod m8_sheet.1) ∧ jWd (.selects m8_sheet.1.cls m8_sheet.1 m8_sheet.1) := ⟨jWd_t3 (i := 180) rfl rfl, jWd_t3 (i := 181) rfl rfl⟩
theorem lX8_251 : jWd (.methodLink "MoonRooms" 251 yX4_lowestBits) := jWd_t3 (i := 191) rfl rfl
theorem lX8_254 : jWd (.methodLink "MoonRooms" 254 yX3_set) := jWd_t3 (i := 195) rfl rfl
abbrev m8_put : JM := (yX8_put, cX8_put, 5, some .int, RX8)
theorem sm8_put : jMs m8_put 3 := ⟨jWd_t3 (i := 190) rfl rfl, jWd_t1 (i := 1) rfl rfl, by decide +kernel, by decide, rfl⟩
theorem sm8_put_w : jWd (.instanceMethod m8_put.1) ∧ jWd (.selects m8_put.1.cls m8_put.1 m8_put.1) := ⟨jWd_t3 (i := 188) rfl rfl, jWd_t3 (i := 189) rfl rfl⟩
theorem lX8_258 : jWd (.methodLink "MoonRooms" 258 yX3_takeFrom) := jWd_t3 (i := 204) rfl rfl
abbrev m8_move : JM := (yX8_move, cX8_move, 8, some .int, RX8)
theorem sm8_move : jMs m8_move 5 := ⟨jWd_t3 (i := 203) rfl rfl, jWd_t1 (i := 1) rfl rfl, by decide +kernel, by decide, rfl⟩
theorem sm8_move_w : jWd (.instanceMethod m8_move.1) ∧ jWd (.selects m8_move.1.cls m8_move.1 m8_move.1) := ⟨jWd_t3 (i := 201) rfl rfl, jWd_t3 (i := 202) rfl rfl⟩
abbrev m8_leases : JM := (yX8_leases, cX8_leases, 6, some .int, RX8)
theorem sm8_leases : jMs m8_leases 1 := ⟨jWd_t3 (i := 208) rfl rfl, jWd_t1 (i := 1) rfl rfl, by decide +kernel, by decide, rfl⟩
theorem sm8_leases_w : jWd (.instanceMethod m8_leases.1) ∧ jWd (.selects m8_leases.1.cls m8_leases.1 m8_leases.1) := ⟨jWd_t3 (i := 206) rfl rfl, jWd_t3 (i := 207) rfl rfl⟩
theorem lX8_262 : jWd (.methodLink "MoonRooms" 262 Lib.Math.min.name) := jWd_t3 (i := 213) rfl rfl
abbrev m8_judge : JM := (yX8_judge, cX8_judge, 6, some .int, RX8)
theorem sm8_judge : jMs m8_judge 1 := ⟨jWd_t3 (i := 212) rfl rfl, jWd_t1 (i := 1) rfl rfl, by decide +kernel, by decide, rfl⟩
theorem sm8_judge_w : jWd (.instanceMethod m8_judge.1) ∧ jWd (.selects m8_judge.1.cls m8_judge.1 m8_judge.1) := ⟨jWd_t3 (i := 210) rfl rfl, jWd_t3 (i := 211) rfl rfl⟩
theorem wX8_16 : jFd "MoonRooms" 16 8 1 (.object "MoonRooms$House") true := ⟨RX8, TX8, 9, tyX8, jcl_X8, by decide, ⟨rfl, rfl⟩, (Or.inl (jWd_t1 (i := 217) rfl rfl))⟩
theorem jr_0_1 : jrf 0 1 = 21 := by decide +kernel
theorem jo_cPl_21 : jO cPl 21 0 = true := by decide +kernel
theorem wX8_267 : jFd "MoonRooms" 267 8 8 (.int) false := ⟨RX8, TX8, 9, tyX8, jcl_X8, by decide, ⟨rfl, rfl⟩, (Or.inl (jWd_t1 (i := 224) rfl rfl))⟩
abbrev m8_image : JM := (yX8_image, cX8_image, 1, some .int, RX8)
theorem sm8_image : jMs m8_image 0 := ⟨jWd_t3 (i := 217) rfl rfl, jWd_t1 (i := 1) rfl rfl, by decide +kernel, by decide, rfl⟩
theorem sm8_image_w : jWd (.instanceMethod m8_image.1) ∧ jWd (.selects m8_image.1.cls m8_image.1 m8_image.1) := ⟨jWd_t3 (i := 215) rfl rfl, jWd_t3 (i := 216) rfl rfl⟩
abbrev m8_restore : JM := (yX8_restore, cX8_restore, 1, some .int, RX8)
theorem sm8_restore : jMs m8_restore 0 := ⟨jWd_t3 (i := 221) rfl rfl, jWd_t1 (i := 1) rfl rfl, by decide +kernel, by decide, rfl⟩
theorem sm8_restore_w : jWd (.instanceMethod m8_restore.1) ∧ jWd (.selects m8_restore.1.cls m8_restore.1 m8_restore.1) := ⟨jWd_t3 (i := 219) rfl rfl, jWd_t3 (i := 220) rfl rfl⟩
theorem wX8_270 : jFd "MoonRooms" 270 0 6 (.object "MoonRooms$Row") true := ⟨RX0, TX0, 9, tyX0, jcl_X0, by decide, ⟨rfl, rfl⟩, (Or.inr ⟨"MoonRooms", jWd_t1 (i := 119) rfl rfl⟩)⟩
theorem jr_1_6 : jrf 1 6 = 11 := by decide +kernel
theorem jo_cPl_11 : jO cPl 11 3 = true := by decide +kernel
abbrev m8_tell : JM := (yX8_tell, cX8_tell, 2, some .int, RX8)
theorem sm8_tell : jMs m8_tell 1 := ⟨jWd_t3 (i := 225) rfl rfl, jWd_t1 (i := 1) rfl rfl, by decide +kernel, by decide, rfl⟩
theorem sm8_tell_w : jWd (.instanceMethod m8_tell.1) ∧ jWd (.selects m8_tell.1.cls m8_tell.1 m8_tell.1) := ⟨jWd_t3 (i := 223) rfl rfl, jWd_t3 (i := 224) rfl rfl⟩
abbrev m8_check : JM := (yX8_check, cX8_check, 3, some .int, RX8)
theorem sm8_check : jMs m8_check 0 := ⟨jWd_t3 (i := 229) rfl rfl, jWd_t1 (i := 1) rfl rfl, by decide +kernel, by decide, rfl⟩
theorem sm8_check_w : jWd (.instanceMethod m8_check.1) ∧ jWd (.selects m8_check.1.cls m8_check.1 m8_check.1) := ⟨jWd_t3 (i := 227) rfl rfl, jWd_t3 (i := 228) rfl rfl⟩
abbrev m8_count : JM := (yX8_count, cX8_count, 2, some .int, RX8)
theorem sm8_count : jMs m8_count 1 := ⟨jWd_t3 (i := 233) rfl rfl, jWd_t1 (i := 1) rfl rfl, by decide +kernel, by decide, rfl⟩
theorem sm8_count_w : jWd (.instanceMethod m8_count.1) ∧ jWd (.selects m8_count.1.cls m8_count.1 m8_count.1) := ⟨jWd_t3 (i := 231) rfl rfl, jWd_t3 (i := 232) rfl rfl⟩
abbrev m8_told : JM := (yX8_told, cX8_told, 2, some .int, RX8)
theorem sm8_told : jMs m8_told 1 := ⟨jWd_t3 (i := 237) rfl rfl, jWd_t1 (i := 1) rfl rfl, by decide +kernel, by decide, rfl⟩
theorem sm8_told_w : jWd (.instanceMethod m8_told.1) ∧ jWd (.selects m8_told.1.cls m8_told.1 m8_told.1) := ⟨jWd_t3 (i := 235) rfl rfl, jWd_t3 (i := 236) rfl rfl⟩
theorem wX9_19 : jFd "MoonRoomsModel" 19 9 4 (.array .int) true := ⟨RX9, TX9, 26, tyX9, jcl_X9, by decide, ⟨rfl, rfl⟩, (Or.inl (jWd_t4 (i := 12) rfl rfl))⟩
theorem jo_mPl_86 : jO mPl 86 9 = true := by decide +kernel
theorem jr_86_4 : jrf 86 4 = 90 := by decide +kernel
theorem kX9_62 : jWd (.constant "MoonRoomsModel" 62 (-1000000000)) := jWd_t4 (i := 100) rfl rfl
theorem ji_mPl_90 : jI mPl 90 = true := by decide +kernel
theorem jl_90 : jlen 90 = 6 := by decide +kernel
abbrev m9_finding : JM := (yX9_finding, cX9_finding, 2, some .int, RX9)
theorem sm9_finding : jMs m9_finding 1 := ⟨jWd_t4 (i := 99) rfl rfl, jWd_t1 (i := 11) rfl rfl, by decide +kernel, by decide, rfl⟩
theorem sm9_finding_w : jWd (.instanceMethod m9_finding.1) ∧ jWd (.selects m9_finding.1.cls m9_finding.1 m9_finding.1) := ⟨jWd_t4 (i := 98) rfl rfl, jWd_sel (i := 18) (n := 26) rfl⟩
abbrev m9_within : JM := (yX9_within, cX9_within, 3, some .boolean, RX9)
theorem sm9_within : jMs m9_within 3 := ⟨jWd_t4 (i := 94) rfl rfl, jWd_t1 (i := 11) rfl rfl, by decide +kernel, by decide, rfl⟩
theorem sm9_within_w : jWd (.static m9_within.1) := jWd_t4 (i := 93) rfl rfl
abbrev m9_hasBit : JM := (yX9_hasBit, cX9_hasBit, 2, some .boolean, RX9)
theorem sm9_hasBit : jMs m9_hasBit 2 := ⟨jWd_t5 (i := 26) rfl rfl, jWd_t1 (i := 11) rfl rfl, by decide +kernel, by decide, rfl⟩
theorem sm9_hasBit_w : jWd (.static m9_hasBit.1) := jWd_t5 (i := 25) rfl rfl
abbrev m9_bits : JM := (yX9_bits, cX9_bits, 3, some .int, RX9)
theorem sm9_bits : jMs m9_bits 1 := ⟨jWd_t5 (i := 29) rfl rfl, jWd_t1 (i := 11) rfl rfl, by decide +kernel, by decide, rfl⟩
theorem sm9_bits_w : jWd (.static m9_bits.1) := jWd_t5 (i := 28) rfl rfl
theorem lX9_63 : jWd (.methodLink "MoonRoomsModel" 63 Lib.Math.min.name) := jWd_t4 (i := 217) rfl rfl
theorem lX9_69 : jWd (.methodLink "MoonRoomsModel" 69 Lib.Math.max.name) := jWd_t4 (i := 218) rfl rfl
abbrev m9_held : JM := (yX9_held, cX9_held, 3, some .int, RX9)
theorem sm9_held : jMs m9_held 3 := ⟨jWd_t4 (i := 216) rfl rfl, jWd_t1 (i := 11) rfl rfl, by decide +kernel, by decide, rfl⟩
theorem sm9_held_w : jWd (.static m9_held.1) := jWd_t4 (i := 215) rfl rfl
abbrev m9_copy : JM := (yX9_copy, cX9_copy, 3, none, RX9)
theorem sm9_copy : jMs m9_copy 2 := ⟨jWd_t5 (i := 157) rfl rfl, jWd_t1 (i := 11) rfl rfl, by decide +kernel, by decide, rfl⟩
theorem sm9_copy_w : jWd (.static m9_copy.1) := jWd_t5 (i := 156) rfl rfl
theorem wX9_9 : jFd "MoonRoomsModel" 9 9 0 (.array .int) true := ⟨RX9, TX9, 26, tyX9, jcl_X9, by decide, ⟨rfl, rfl⟩, (Or.inl (jWd_t4 (i := 8) rfl rfl))⟩
theorem jr_86_0 : jrf 86 0 = 87 := by decide +kernel
theorem ji_mPl_87 : jI mPl 87 = true := by decide +kernel
theorem jl_87 : jlen 87 = 210 := by decide +kernel
abbrev m9_turn : JM := (yX9_turn, cX9_turn, 4, some .int, RX9)
theorem sm9_turn : jMs m9_turn 2 := ⟨jWd_t5 (i := 41) rfl rfl, jWd_t1 (i := 11) rfl rfl, by decide +kernel, by decide, rfl⟩
theorem sm9_turn_w : jWd (.instanceMethod m9_turn.1) ∧ jWd (.selects m9_turn.1.cls m9_turn.1 m9_turn.1) := ⟨jWd_t5 (i := 40) rfl rfl, jWd_sel (i := 39) (n := 26) rfl⟩
theorem wX9_16 : jFd "MoonRoomsModel" 16 9 2 (.array .int) true := ⟨RX9, TX9, 26, tyX9, jcl_X9, by decide, ⟨rfl, rfl⟩, (Or.inl (jWd_t4 (i := 10) rfl rfl))⟩
theorem jr_86_2 : jrf 86 2 = 89 := by decide +kernel
theorem lX9_72 : jWd (.methodLink "MoonRoomsModel" 72 yX9_copy) := jWd_t5 (i := 155) rfl rfl
abbrev m9_putBack : JM := (yX9_putBack, cX9_putBack, 2, some .int, RX9)
theorem sm9_putBack : jMs m9_putBack 1 := ⟨jWd_t5 (i := 161) rfl rfl, jWd_t1 (i := 11) rfl rfl, by decide +kernel, by decide, rfl⟩
theorem sm9_putBack_w : jWd (.instanceMethod m9_putBack.1) ∧ jWd (.selects m9_putBack.1.cls m9_putBack.1 m9_putBack.1) := ⟨jWd_t5 (i := 160) rfl rfl, jWd_sel (i := 54) (n := 26) rfl⟩
theorem lX9_76 : jWd (.methodLink "MoonRoomsModel" 76 yX9_within) := jWd_t4 (i := 92) rfl rfl
theorem kX9_85 : jWd (.constant "MoonRoomsModel" 85 (-1000000004)) := jWd_t4 (i := 101) rfl rfl
theorem lX9_81 : jWd (.methodLink "MoonRoomsModel" 81 yX9_finding) := jWd_t4 (i := 96) rfl rfl
theorem kX9_80 : jWd (.constant "MoonRoomsModel" 80 (-1000000001)) := jWd_t4 (i := 95) rfl rfl
theorem kX9_86 : jWd (.constantLong "MoonRoomsModel" 86 (255)) := jWd_t4 (i := 102) rfl rfl
abbrev m9_feed : JM := (yX9_feed, cX9_feed, 5, some .int, RX9)
theorem sm9_feed : jMs m9_feed 2 := ⟨jWd_t4 (i := 91) rfl rfl, jWd_t1 (i := 11) rfl rfl, by decide +kernel, by decide, rfl⟩
theorem sm9_feed_w : jWd (.instanceMethod m9_feed.1) ∧ jWd (.selects m9_feed.1.cls m9_feed.1 m9_feed.1) := ⟨jWd_t4 (i := 89) rfl rfl, jWd_t4 (i := 90) rfl rfl⟩
theorem wX9_88 : jFd "MoonRoomsModel" 88 9 9 (.boolean) false := ⟨RX9, TX9, 26, tyX9, jcl_X9, by decide, ⟨rfl, rfl⟩, (Or.inl (jWd_t4 (i := 17) rfl rfl))⟩
theorem wX9_92 : jFd "MoonRoomsModel" 92 9 6 (.int) false := ⟨RX9, TX9, 26, tyX9, jcl_X9, by decide, ⟨rfl, rfl⟩, (Or.inl (jWd_t4 (i := 14) rfl rfl))⟩
abbrev m9_here : JM := (yX9_here, cX9_here, 1, some .int, RX9)
theorem sm9_here : jMs m9_here 0 := ⟨jWd_t4 (i := 134) rfl rfl, jWd_t1 (i := 11) rfl rfl, by decide +kernel, by decide, rfl⟩
theorem sm9_here_w : jWd (.instanceMethod m9_here.1) ∧ jWd (.selects m9_here.1.cls m9_here.1 m9_here.1) := ⟨jWd_t4 (i := 133) rfl rfl, jWd_sel (i := 25) (n := 26) rfl⟩
theorem lX9_96 : jWd (.methodLink "MoonRoomsModel" 96 yX9_here) := jWd_t4 (i := 131) rfl rfl
abbrev m9_takes : JM := (yX9_takes, cX9_takes, 3, some .boolean, RX9)
theorem sm9_takes : jMs m9_takes 1 := ⟨jWd_t4 (i := 142) rfl rfl, jWd_t1 (i := 11) rfl rfl, by decide +kernel, by decide, rfl⟩
theorem sm9_takes_w : jWd (.instanceMethod m9_takes.1) ∧ jWd (.selects m9_takes.1.cls m9_takes.1 m9_takes.1) := ⟨jWd_t4 (i := 141) rfl rfl, jWd_sel (i := 27) (n := 26) rfl⟩
theorem wX9_32 : jFd "MoonRoomsModel" 32 9 10 (.array .int) true := ⟨RX9, TX9, 26, tyX9, jcl_X9, by decide, ⟨rfl, rfl⟩, (Or.inl (jWd_t4 (i := 18) rfl rfl))⟩
theorem jr_86_10 : jrf 86 10 = 92 := by decide +kernel
theorem wX9_100 : jFd "MoonRoomsModel" 100 9 11 (.int) false := ⟨RX9, TX9, 26, tyX9, jcl_X9, by decide, ⟨rfl, rfl⟩, (Or.inl (jWd_t4 (i := 19) rfl rfl))⟩
theorem ji_mPl_92 : jI mPl 92 = true := by decide +kernel
theorem jl_92 : jlen 92 = 60 := by decide +kernel
abbrev m9_codes : JM := (yX9_codes, cX9_codes, 2, none, RX9)
theorem sm9_codes : jMs m9_codes 1 := ⟨jWd_t4 (i := 138) rfl rfl, jWd_t1 (i := 11) rfl rfl, by decide +kernel, by decide, rfl⟩
theorem sm9_codes_w : jWd (.instanceMethod m9_codes.1) ∧ jWd (.selects m9_codes.1.cls m9_codes.1 m9_codes.1) := ⟨jWd_t4 (i := 137) rfl rfl, jWd_sel (i := 26) (n := 26) rfl⟩
theorem lX9_103 : jWd (.methodLink "MoonRoomsModel" 103 yX9_both) := jWd_t4 (i := 111) rfl rfl
abbrev m9_both : JM := (yX9_both, cX9_both, 1, none, RX9)
theorem sm9_both : jMs m9_both 0 := ⟨jWd_t4 (i := 114) rfl rfl, jWd_t1 (i := 11) rfl rfl, by decide +kernel, by decide, rfl⟩
theorem sm9_both_w : jWd (.instanceMethod m9_both.1) ∧ jWd (.selects m9_both.1.cls m9_both.1 m9_both.1) := ⟨jWd_t4 (i := 113) rfl rfl, jWd_sel (i := 20) (n := 26) rfl⟩
theorem lX9_106 : jWd (.methodLink "MoonRoomsModel" 106 yX9_takes) := jWd_t4 (i := 139) rfl rfl
theorem lX9_110 : jWd (.methodLink "MoonRoomsModel" 110 yX9_codes) := jWd_t4 (i := 135) rfl rfl
theorem lX9_114 : jWd (.methodLink "MoonRoomsModel" 114 yX9_compared) := jWd_t4 (i := 115) rfl rfl
abbrev m9_compared : JM := (yX9_compared, cX9_compared, 2, none, RX9)
theorem sm9_compared : jMs m9_compared 0 := ⟨jWd_t4 (i := 118) rfl rfl, jWd_t1 (i := 11) rfl rfl, by decide +kernel, by decide, rfl⟩
theorem sm9_compared_w : jWd (.instanceMethod m9_compared.1) ∧ jWd (.selects m9_compared.1.cls m9_compared.1 m9_compared.1) := ⟨jWd_t4 (i := 117) rfl rfl, jWd_sel (i := 21) (n := 26) rfl⟩
theorem lX9_117 : jWd (.methodLink "MoonRoomsModel" 117 yX9_sum) := jWd_t4 (i := 119) rfl rfl
abbrev m9_sum : JM := (yX9_sum, cX9_sum, 2, none, RX9)
theorem sm9_sum : jMs m9_sum 0 := ⟨jWd_t4 (i := 122) rfl rfl, jWd_t1 (i := 11) rfl rfl, by decide +kernel, by decide, rfl⟩
theorem sm9_sum_w : jWd (.instanceMethod m9_sum.1) ∧ jWd (.selects m9_sum.1.cls m9_sum.1 m9_sum.1) := ⟨jWd_t4 (i := 121) rfl rfl, jWd_sel (i := 22) (n := 26) rfl⟩
theorem lX9_120 : jWd (.methodLink "MoonRoomsModel" 120 yX9_product) := jWd_t4 (i := 123) rfl rfl
abbrev m9_product : JM := (yX9_product, cX9_product, 2, none, RX9)
theorem sm9_product : jMs m9_product 0 := ⟨jWd_t4 (i := 126) rfl rfl, jWd_t1 (i := 11) rfl rfl, by decide +kernel, by decide, rfl⟩
theorem sm9_product_w : jWd (.instanceMethod m9_product.1) ∧ jWd (.selects m9_product.1.cls m9_product.1 m9_product.1) := ⟨jWd_t4 (i := 125) rfl rfl, jWd_sel (i := 23) (n := 26) rfl⟩
theorem lX9_123 : jWd (.methodLink "MoonRoomsModel" 123 yX9_one) := jWd_t4 (i := 127) rfl rfl
abbrev m9_one : JM := (yX9_one, cX9_one, 4, none, RX9)
theorem sm9_one : jMs m9_one 0 := ⟨jWd_t4 (i := 130) rfl rfl, jWd_t1 (i := 11) rfl rfl, by decide +kernel, by decide, rfl⟩
theorem sm9_one_w : jWd (.instanceMethod m9_one.1) ∧ jWd (.selects m9_one.1.cls m9_one.1 m9_one.1) := ⟨jWd_t4 (i := 129) rfl rfl, jWd_sel (i := 24) (n := 26) rfl⟩
theorem lX9_142 : jWd (.methodLink "MoonRoomsModel" 142 yX9_nameOf) := jWd_t4 (i := 143) rfl rfl
abbrev m9_nameOf : JM := (yX9_nameOf, cX9_nameOf, 4, some .int, RX9)
theorem sm9_nameOf : jMs m9_nameOf 1 := ⟨jWd_t4 (i := 146) rfl rfl, jWd_t1 (i := 11) rfl rfl, by decide +kernel, by decide, rfl⟩
theorem sm9_nameOf_w : jWd (.instanceMethod m9_nameOf.1) ∧ jWd (.selects m9_nameOf.1.cls m9_nameOf.1 m9_nameOf.1) := ⟨jWd_t4 (i := 145) rfl rfl, jWd_sel (i := 28) (n := 26) rfl⟩
theorem wX9_136 : jFd "MoonRoomsModel" 136 9 7 (.int) false := ⟨RX9, TX9, 26, tyX9, jcl_X9, by decide, ⟨rfl, rfl⟩, (Or.inl (jWd_t4 (i := 15) rfl rfl))⟩
theorem lX9_139 : jWd (.methodLink "MoonRoomsModel" 139 yX9_either) := jWd_t4 (i := 107) rfl rfl
abbrev m9_either : JM := (yX9_either, cX9_either, 1, none, RX9)
theorem sm9_either : jMs m9_either 0 := ⟨jWd_t4 (i := 110) rfl rfl, jWd_t1 (i := 11) rfl rfl, by decide +kernel, by decide, rfl⟩
theorem sm9_either_w : jWd (.instanceMethod m9_either.1) ∧ jWd (.selects m9_either.1.cls m9_either.1 m9_either.1) := ⟨jWd_t4 (i := 109) rfl rfl, jWd_sel (i := 19) (n := 26) rfl⟩
theorem wX9_126 : jFd "MoonRoomsModel" 126 9 8 (.int) false := ⟨RX9, TX9, 26, tyX9, jcl_X9, by decide, ⟨rfl, rfl⟩, (Or.inl (jWd_t4 (i := 16) rfl rfl))⟩
abbrev m9_text : JM := (yX9_text, cX9_text, 3, some .int, RX9)
theorem sm9_text : jMs m9_text 1 := ⟨jWd_t4 (i := 106) rfl rfl, jWd_t1 (i := 11) rfl rfl, by decide +kernel, by decide, rfl⟩
theorem sm9_text_w : jWd (.instanceMethod m9_text.1) ∧ jWd (.selects m9_text.1.cls m9_text.1 m9_text.1) := ⟨jWd_t4 (i := 104) rfl rfl, jWd_t4 (i := 105) rfl rfl⟩
abbrev m9_done : JM := (yX9_done, cX9_done, 3, some .int, RX9)
theorem sm9_done : jMs m9_done 3 := ⟨jWd_t4 (i := 213) rfl rfl, jWd_t1 (i := 11) rfl rfl, by decide +kernel, by decide, rfl⟩
theorem sm9_done_w : jWd (.static m9_done.1) := jWd_t4 (i := 212) rfl rfl
theorem wX9_38 : jFd "MoonRoomsModel" 38 9 13 (.array .int) true := ⟨RX9, TX9, 26, tyX9, jcl_X9, by decide, ⟨rfl, rfl⟩, (Or.inl (jWd_t4 (i := 21) rfl rfl))⟩
theorem jr_86_13 : jrf 86 13 = 94 := by decide +kernel
theorem ji_mPl_94 : jI mPl 94 = true := by decide +kernel
theorem jl_94 : jlen 94 = 60 := by decide +kernel
theorem lX9_145 : jWd (.methodLink "MoonRoomsModel" 145 yX9_done) := jWd_t4 (i := 211) rfl rfl
theorem wX9_35 : jFd "MoonRoomsModel" 35 9 12 (.array .int) true := ⟨RX9, TX9, 26, tyX9, jcl_X9, by decide, ⟨rfl, rfl⟩, (Or.inl (jWd_t4 (i := 20) rfl rfl))⟩
theorem jr_86_12 : jrf 86 12 = 93 := by decide +kernel
theorem ji_mPl_93 : jI mPl 93 = true := by decide +kernel
theorem jl_93 : jlen 93 = 4 := by decide +kernel
abbrev m9_worked : JM := (yX9_worked, cX9_worked, 5, some .int, RX9)
theorem sm9_worked : jMs m9_worked 1 := ⟨jWd_t4 (i := 210) rfl rfl, jWd_t1 (i := 11) rfl rfl, by decide +kernel, by decide, rfl⟩
theorem sm9_worked_w : jWd (.instanceMethod m9_worked.1) ∧ jWd (.selects m9_worked.1.cls m9_worked.1 m9_worked.1) := ⟨jWd_t4 (i := 209) rfl rfl, jWd_sel (i := 31) (n := 26) rfl⟩
abbrev m9_hasText : JM := (yX9_hasText, cX9_hasText, 2, some .boolean, RX9)
theorem sm9_hasText : jMs m9_hasText 1 := ⟨jWd_t4 (i := 206) rfl rfl, jWd_t1 (i := 11) rfl rfl, by decide +kernel, by decide, rfl⟩
theorem sm9_hasText_w : jWd (.instanceMethod m9_hasText.1) ∧ jWd (.selects m9_hasText.1.cls m9_hasText.1 m9_hasText.1) := ⟨jWd_t4 (i := 205) rfl rfl, jWd_sel (i := 30) (n := 26) rfl⟩
theorem lX9_149 : jWd (.methodLink "MoonRoomsModel" 149 yX9_hasText) := jWd_t4 (i := 203) rfl rfl
theorem lX9_152 : jWd (.methodLink "MoonRoomsModel" 152 yX9_worked) := jWd_t4 (i := 207) rfl rfl
theorem lX9_155 : jWd (.methodLink "MoonRoomsModel" 155 yX9_held) := jWd_t4 (i := 214) rfl rfl
abbrev m9_given : JM := (yX9_given, cX9_given, 5, some .int, RX9)
theorem sm9_given : jMs m9_given 4 := ⟨jWd_t4 (i := 202) rfl rfl, jWd_t1 (i := 11) rfl rfl, by decide +kernel, by decide, rfl⟩
theorem sm9_given_w : jWd (.instanceMethod m9_given.1) ∧ jWd (.selects m9_given.1.cls m9_given.1 m9_given.1) := ⟨jWd_t4 (i := 201) rfl rfl, jWd_sel (i := 29) (n := 26) rfl⟩
theorem lX9_158 : jWd (.methodLink "MoonRoomsModel" 158 yX9_given) := jWd_t4 (i := 199) rfl rfl
abbrev m9_law : JM := (yX9_law, cX9_law, 5, some .int, RX9)
theorem sm9_law : jMs m9_law 4 := ⟨jWd_t4 (i := 198) rfl rfl, jWd_t1 (i := 11) rfl rfl, by decide +kernel, by decide, rfl⟩
theorem sm9_law_w : jWd (.instanceMethod m9_law.1) ∧ jWd (.selects m9_law.1.cls m9_law.1 m9_law.1) := ⟨jWd_t4 (i := 196) rfl rfl, jWd_t4 (i := 197) rfl rfl⟩
abbrev m9_isCell : JM := (yX9_isCell, cX9_isCell, 1, some .boolean, RX9)
theorem sm9_isCell : jMs m9_isCell 1 := ⟨jWd_t4 (i := 225) rfl rfl, jWd_t1 (i := 11) rfl rfl, by decide +kernel, by decide, rfl⟩
theorem sm9_isCell_w : jWd (.static m9_isCell.1) := jWd_t4 (i := 224) rfl rfl
abbrev m9_columnsLit : JM := (yX9_columnsLit, cX9_columnsLit, 1, some .int, RX9)
theorem sm9_columnsLit : jMs m9_columnsLit 1 := ⟨jWd_t4 (i := 239) rfl rfl, jWd_t1 (i := 11) rfl rfl, by decide +kernel, by decide, rfl⟩
theorem sm9_columnsLit_w : jWd (.static m9_columnsLit.1) := jWd_t4 (i := 238) rfl rfl
theorem lX9_162 : jWd (.methodLink "MoonRoomsModel" 162 yX9_columnsLit) := jWd_t4 (i := 237) rfl rfl
theorem kX9_165 : jWd (.constant "MoonRoomsModel" 165 (65793)) := jWd_t5 (i := 0) rfl rfl
abbrev m9_litBy : JM := (yX9_litBy, cX9_litBy, 1, some .int, RX9)
theorem sm9_litBy : jMs m9_litBy 1 := ⟨jWd_t4 (i := 236) rfl rfl, jWd_t1 (i := 11) rfl rfl, by decide +kernel, by decide, rfl⟩
theorem sm9_litBy_w : jWd (.static m9_litBy.1) := jWd_t4 (i := 235) rfl rfl
abbrev m9_phase : JM := (yX9_phase, cX9_phase, 1, some .int, RX9)
theorem sm9_phase : jMs m9_phase 0 := ⟨jWd_t4 (i := 233) rfl rfl, jWd_t1 (i := 11) rfl rfl, by decide +kernel, by decide, rfl⟩
theorem sm9_phase_w : jWd (.instanceMethod m9_phase.1) ∧ jWd (.selects m9_phase.1.cls m9_phase.1 m9_phase.1) := ⟨jWd_t4 (i := 232) rfl rfl, jWd_sel (i := 33) (n := 26) rfl⟩
theorem lX9_166 : jWd (.methodLink "MoonRoomsModel" 166 yX9_phase) := jWd_t4 (i := 230) rfl rfl
theorem lX9_169 : jWd (.methodLink "MoonRoomsModel" 169 yX9_litBy) := jWd_t4 (i := 234) rfl rfl
abbrev m9_litNow : JM := (yX9_litNow, cX9_litNow, 1, some .int, RX9)
theorem sm9_litNow : jMs m9_litNow 0 := ⟨jWd_t4 (i := 229) rfl rfl, jWd_t1 (i := 11) rfl rfl, by decide +kernel, by decide, rfl⟩
theorem sm9_litNow_w : jWd (.instanceMethod m9_litNow.1) ∧ jWd (.selects m9_litNow.1.cls m9_litNow.1 m9_litNow.1) := ⟨jWd_t4 (i := 228) rfl rfl, jWd_sel (i := 32) (n := 26) rfl⟩
abbrev m9_isCloudy : JM := (yX9_isCloudy, cX9_isCloudy, 1, some .boolean, RX9)
theorem sm9_isCloudy : jMs m9_isCloudy 0 := ⟨jWd_t5 (i := 8) rfl rfl, jWd_t1 (i := 11) rfl rfl, by decide +kernel, by decide, rfl⟩
theorem sm9_isCloudy_w : jWd (.instanceMethod m9_isCloudy.1) ∧ jWd (.selects m9_isCloudy.1.cls m9_isCloudy.1 m9_isCloudy.1) := ⟨jWd_t5 (i := 7) rfl rfl, jWd_sel (i := 35) (n := 26) rfl⟩
theorem lX9_172 : jWd (.methodLink "MoonRoomsModel" 172 yX9_isCloudy) := jWd_t5 (i := 5) rfl rfl
theorem lX9_176 : jWd (.methodLink "MoonRoomsModel" 176 yX9_litNow) := jWd_t4 (i := 226) rfl rfl
abbrev m9_seenNow : JM := (yX9_seenNow, cX9_seenNow, 1, some .int, RX9)
theorem sm9_seenNow : jMs m9_seenNow 0 := ⟨jWd_t5 (i := 4) rfl rfl, jWd_t1 (i := 11) rfl rfl, by decide +kernel, by decide, rfl⟩
theorem sm9_seenNow_w : jWd (.instanceMethod m9_seenNow.1) ∧ jWd (.selects m9_seenNow.1.cls m9_seenNow.1 m9_seenNow.1) := ⟨jWd_t5 (i := 3) rfl rfl, jWd_sel (i := 34) (n := 26) rfl⟩
abbrev m9_at : JM := (yX9_at, cX9_at, 2, some .int, RX9)
theorem sm9_at : jMs m9_at 2 := ⟨jWd_t5 (i := 23) rfl rfl, jWd_t1 (i := 11) rfl rfl, by decide +kernel, by decide, rfl⟩
theorem sm9_at_w : jWd (.static m9_at.1) := jWd_t5 (i := 22) rfl rfl
theorem lX9_204 : jWd (.methodLink "MoonRoomsModel" 204 yX9_at) := jWd_t5 (i := 21) rfl rfl
abbrev m9_tenantIs : JM := (yX9_tenantIs, cX9_tenantIs, 3, some .int, RX9)
theorem sm9_tenantIs : jMs m9_tenantIs 2 := ⟨jWd_t5 (i := 20) rfl rfl, jWd_t1 (i := 11) rfl rfl, by decide +kernel, by decide, rfl⟩
theorem sm9_tenantIs_w : jWd (.instanceMethod m9_tenantIs.1) ∧ jWd (.selects m9_tenantIs.1.cls m9_tenantIs.1 m9_tenantIs.1) := ⟨jWd_t5 (i := 19) rfl rfl, jWd_sel (i := 38) (n := 26) rfl⟩
theorem lX9_179 : jWd (.methodLink "MoonRoomsModel" 179 yX9_tenantIs) := jWd_t5 (i := 17) rfl rfl
theorem lX9_182 : jWd (.methodLink "MoonRoomsModel" 182 yX9_hasBit) := jWd_t5 (i := 24) rfl rfl
abbrev m9_holders : JM := (yX9_holders, cX9_holders, 4, some .int, RX9)
theorem sm9_holders : jMs m9_holders 1 := ⟨jWd_t5 (i := 16) rfl rfl, jWd_t1 (i := 11) rfl rfl, by decide +kernel, by decide, rfl⟩
theorem sm9_holders_w : jWd (.instanceMethod m9_holders.1) ∧ jWd (.selects m9_holders.1.cls m9_holders.1 m9_holders.1) := ⟨jWd_t5 (i := 15) rfl rfl, jWd_sel (i := 37) (n := 26) rfl⟩
theorem lX9_186 : jWd (.methodLink "MoonRoomsModel" 186 yX9_holders) := jWd_t5 (i := 13) rfl rfl
theorem lX9_189 : jWd (.methodLink "MoonRoomsModel" 189 yX9_bits) := jWd_t5 (i := 27) rfl rfl
abbrev m9_rentOf : JM := (yX9_rentOf, cX9_rentOf, 2, some .int, RX9)
theorem sm9_rentOf : jMs m9_rentOf 1 := ⟨jWd_t5 (i := 12) rfl rfl, jWd_t1 (i := 11) rfl rfl, by decide +kernel, by decide, rfl⟩
theorem sm9_rentOf_w : jWd (.instanceMethod m9_rentOf.1) ∧ jWd (.selects m9_rentOf.1.cls m9_rentOf.1 m9_rentOf.1) := ⟨jWd_t5 (i := 11) rfl rfl, jWd_sel (i := 36) (n := 26) rfl⟩
theorem lX9_192 : jWd (.methodLink "MoonRoomsModel" 192 yX9_isCell) := jWd_t4 (i := 223) rfl rfl
theorem lX9_195 : jWd (.methodLink "MoonRoomsModel" 195 yX9_seenNow) := jWd_t5 (i := 1) rfl rfl
theorem lX9_198 : jWd (.methodLink "MoonRoomsModel" 198 yX9_rentOf) := jWd_t5 (i := 9) rfl rfl
abbrev m9_ofCell : JM := (yX9_ofCell, cX9_ofCell, 3, some .int, RX9)
theorem sm9_ofCell : jMs m9_ofCell 2 := ⟨jWd_t4 (i := 222) rfl rfl, jWd_t1 (i := 11) rfl rfl, by decide +kernel, by decide, rfl⟩
theorem sm9_ofCell_w : jWd (.instanceMethod m9_ofCell.1) ∧ jWd (.selects m9_ofCell.1.cls m9_ofCell.1 m9_ofCell.1) := ⟨jWd_t4 (i := 220) rfl rfl, jWd_t4 (i := 221) rfl rfl⟩
abbrev m9_lit : JM := (yX9_lit, cX9_lit, 2, some .int, RX9)
theorem sm9_lit : jMs m9_lit 1 := ⟨jWd_t5 (i := 33) rfl rfl, jWd_t1 (i := 11) rfl rfl, by decide +kernel, by decide, rfl⟩
theorem sm9_lit_w : jWd (.instanceMethod m9_lit.1) ∧ jWd (.selects m9_lit.1.cls m9_lit.1 m9_lit.1) := ⟨jWd_t5 (i := 31) rfl rfl, jWd_t5 (i := 32) rfl rfl⟩
theorem lX9_201 : jWd (.methodLink "MoonRoomsModel" 201 yX9_turn) := jWd_t5 (i := 38) rfl rfl
abbrev m9_weather : JM := (yX9_weather, cX9_weather, 2, some .int, RX9)
theorem sm9_weather : jMs m9_weather 1 := ⟨jWd_t5 (i := 37) rfl rfl, jWd_t1 (i := 11) rfl rfl, by decide +kernel, by decide, rfl⟩
theorem sm9_weather_w : jWd (.instanceMethod m9_weather.1) ∧ jWd (.selects m9_weather.1.cls m9_weather.1 m9_weather.1) := ⟨jWd_t5 (i := 35) rfl rfl, jWd_t5 (i := 36) rfl rfl⟩
abbrev m9_isTenant : JM := (yX9_isTenant, cX9_isTenant, 2, some .boolean, RX9)
theorem sm9_isTenant : jMs m9_isTenant 1 := ⟨jWd_t5 (i := 60) rfl rfl, jWd_t1 (i := 11) rfl rfl, by decide +kernel, by decide, rfl⟩
theorem sm9_isTenant_w : jWd (.instanceMethod m9_isTenant.1) ∧ jWd (.selects m9_isTenant.1.cls m9_isTenant.1 m9_isTenant.1) := ⟨jWd_t5 (i := 59) rfl rfl, jWd_sel (i := 41) (n := 26) rfl⟩
abbrev m9_isOut : JM := (yX9_isOut, cX9_isOut, 2, some .boolean, RX9)
theorem sm9_isOut : jMs m9_isOut 1 := ⟨jWd_t5 (i := 104) rfl rfl, jWd_t1 (i := 11) rfl rfl, by decide +kernel, by decide, rfl⟩
theorem sm9_isOut_w : jWd (.instanceMethod m9_isOut.1) ∧ jWd (.selects m9_isOut.1.cls m9_isOut.1 m9_isOut.1) := ⟨jWd_t5 (i := 103) rfl rfl, jWd_sel (i := 46) (n := 26) rfl⟩
abbrev m9_isKindM : JM := (yX9_isKindM, cX9_isKindM, 1, some .boolean, RX9)
theorem sm9_isKindM : jMs m9_isKindM 1 := ⟨jWd_t5 (i := 48) rfl rfl, jWd_t1 (i := 11) rfl rfl, by decide +kernel, by decide, rfl⟩
theorem sm9_isKindM_w : jWd (.static m9_isKindM.1) := jWd_t5 (i := 47) rfl rfl
abbrev m9_comes : JM := (yX9_comes, cX9_comes, 3, some .int, RX9)
theorem sm9_comes : jMs m9_comes 1 := ⟨jWd_t5 (i := 52) rfl rfl, jWd_t1 (i := 11) rfl rfl, by decide +kernel, by decide, rfl⟩
theorem sm9_comes_w : jWd (.instanceMethod m9_comes.1) ∧ jWd (.selects m9_comes.1.cls m9_comes.1 m9_comes.1) := ⟨jWd_t5 (i := 51) rfl rfl, jWd_sel (i := 40) (n := 26) rfl⟩
theorem lX9_206 : jWd (.methodLink "MoonRoomsModel" 206 yX9_isKindM) := jWd_t5 (i := 46) rfl rfl
theorem lX9_209 : jWd (.methodLink "MoonRoomsModel" 209 yX9_comes) := jWd_t5 (i := 49) rfl rfl
abbrev m9_tenant : JM := (yX9_tenant, cX9_tenant, 2, some .int, RX9)
theorem sm9_tenant : jMs m9_tenant 1 := ⟨jWd_t5 (i := 45) rfl rfl, jWd_t1 (i := 11) rfl rfl, by decide +kernel, by decide, rfl⟩
theorem sm9_tenant_w : jWd (.instanceMethod m9_tenant.1) ∧ jWd (.selects m9_tenant.1.cls m9_tenant.1 m9_tenant.1) := ⟨jWd_t5 (i := 43) rfl rfl, jWd_t5 (i := 44) rfl rfl⟩
abbrev m9_above : JM := (yX9_above, cX9_above, 1, some .int, RX9)
theorem sm9_above : jMs m9_above 1 := ⟨jWd_t5 (i := 75) rfl rfl, jWd_t1 (i := 11) rfl rfl, by decide +kernel, by decide, rfl⟩
theorem sm9_above_w : jWd (.static m9_above.1) := jWd_t5 (i := 74) rfl rfl
theorem lX9_212 : jWd (.methodLink "MoonRoomsModel" 212 yX9_above) := jWd_t5 (i := 73) rfl rfl
abbrev m9_isUnder : JM := (yX9_isUnder, cX9_isUnder, 3, some .boolean, RX9)
theorem sm9_isUnder : jMs m9_isUnder 2 := ⟨jWd_t5 (i := 72) rfl rfl, jWd_t1 (i := 11) rfl rfl, by decide +kernel, by decide, rfl⟩
theorem sm9_isUnder_w : jWd (.static m9_isUnder.1) := jWd_t5 (i := 71) rfl rfl
theorem lX9_215 : jWd (.methodLink "MoonRoomsModel" 215 yX9_isUnder) := jWd_t5 (i := 70) rfl rfl
abbrev m9_isOf : JM := (yX9_isOf, cX9_isOf, 3, some .boolean, RX9)
theorem sm9_isOf : jMs m9_isOf 2 := ⟨jWd_t5 (i := 69) rfl rfl, jWd_t1 (i := 11) rfl rfl, by decide +kernel, by decide, rfl⟩
theorem sm9_isOf_w : jWd (.instanceMethod m9_isOf.1) ∧ jWd (.selects m9_isOf.1.cls m9_isOf.1 m9_isOf.1) := ⟨jWd_t5 (i := 68) rfl rfl, jWd_sel (i := 43) (n := 26) rfl⟩
theorem lX9_218 : jWd (.methodLink "MoonRoomsModel" 218 yX9_isOf) := jWd_t5 (i := 66) rfl rfl
abbrev m9_looks : JM := (yX9_looks, cX9_looks, 3, some .boolean, RX9)
theorem sm9_looks : jMs m9_looks 1 := ⟨jWd_t5 (i := 65) rfl rfl, jWd_t1 (i := 11) rfl rfl, by decide +kernel, by decide, rfl⟩
theorem sm9_looks_w : jWd (.instanceMethod m9_looks.1) ∧ jWd (.selects m9_looks.1.cls m9_looks.1 m9_looks.1) := ⟨jWd_t5 (i := 64) rfl rfl, jWd_sel (i := 42) (n := 26) rfl⟩
abbrev m9_othersIn : JM := (yX9_othersIn, cX9_othersIn, 4, some .int, RX9)
theorem sm9_othersIn : jMs m9_othersIn 1 := ⟨jWd_t5 (i := 83) rfl rfl, jWd_t1 (i := 11) rfl rfl, by decide +kernel, by decide, rfl⟩
theorem sm9_othersIn_w : jWd (.instanceMethod m9_othersIn.1) ∧ jWd (.selects m9_othersIn.1.cls m9_othersIn.1 m9_othersIn.1) := ⟨jWd_t5 (i := 82) rfl rfl, jWd_sel (i := 45) (n := 26) rfl⟩
theorem lX9_221 : jWd (.methodLink "MoonRoomsModel" 221 yX9_othersIn) := jWd_t5 (i := 80) rfl rfl
abbrev m9_owes : JM := (yX9_owes, cX9_owes, 4, some .int, RX9)
theorem sm9_owes : jMs m9_owes 1 := ⟨jWd_t5 (i := 79) rfl rfl, jWd_t1 (i := 11) rfl rfl, by decide +kernel, by decide, rfl⟩
theorem sm9_owes_w : jWd (.instanceMethod m9_owes.1) ∧ jWd (.selects m9_owes.1.cls m9_owes.1 m9_owes.1) := ⟨jWd_t5 (i := 78) rfl rfl, jWd_sel (i := 44) (n := 26) rfl⟩
theorem lX9_224 : jWd (.methodLink "MoonRoomsModel" 224 yX9_looks) := jWd_t5 (i := 62) rfl rfl
abbrev m9_earns : JM := (yX9_earns, cX9_earns, 3, some .int, RX9)
theorem sm9_earns : jMs m9_earns 1 := ⟨jWd_t5 (i := 133) rfl rfl, jWd_t1 (i := 11) rfl rfl, by decide +kernel, by decide, rfl⟩
theorem sm9_earns_w : jWd (.instanceMethod m9_earns.1) ∧ jWd (.selects m9_earns.1.cls m9_earns.1 m9_earns.1) := ⟨jWd_t5 (i := 132) rfl rfl, jWd_sel (i := 50) (n := 26) rfl⟩
theorem lX9_227 : jWd (.methodLink "MoonRoomsModel" 227 yX9_isTenant) := jWd_t5 (i := 57) rfl rfl
theorem kX9_230 : jWd (.constant "MoonRoomsModel" 230 (100000)) := jWd_t5 (i := 61) rfl rfl
theorem lX9_231 : jWd (.methodLink "MoonRoomsModel" 231 yX9_owes) := jWd_t5 (i := 76) rfl rfl
abbrev m9_ofTenant : JM := (yX9_ofTenant, cX9_ofTenant, 3, some .int, RX9)
theorem sm9_ofTenant : jMs m9_ofTenant 2 := ⟨jWd_t5 (i := 56) rfl rfl, jWd_t1 (i := 11) rfl rfl, by decide +kernel, by decide, rfl⟩
theorem sm9_ofTenant_w : jWd (.instanceMethod m9_ofTenant.1) ∧ jWd (.selects m9_ofTenant.1.cls m9_ofTenant.1 m9_ofTenant.1) := ⟨jWd_t5 (i := 54) rfl rfl, jWd_t5 (i := 55) rfl rfl⟩
abbrev m9_become : JM := (yX9_become, cX9_become, 3, some .int, RX9)
theorem sm9_become : jMs m9_become 2 := ⟨jWd_t5 (i := 87) rfl rfl, jWd_t1 (i := 11) rfl rfl, by decide +kernel, by decide, rfl⟩
theorem sm9_become_w : jWd (.instanceMethod m9_become.1) ∧ jWd (.selects m9_become.1.cls m9_become.1 m9_become.1) := ⟨jWd_t5 (i := 85) rfl rfl, jWd_t5 (i := 86) rfl rfl⟩
theorem kX9_234 : jWd (.constant "MoonRoomsModel" 234 (-1000000005)) := jWd_t5 (i := 92) rfl rfl
abbrev m9_as : JM := (yX9_as, cX9_as, 3, some .int, RX9)
theorem sm9_as : jMs m9_as 2 := ⟨jWd_t5 (i := 91) rfl rfl, jWd_t1 (i := 11) rfl rfl, by decide +kernel, by decide, rfl⟩
theorem sm9_as_w : jWd (.instanceMethod m9_as.1) ∧ jWd (.selects m9_as.1.cls m9_as.1 m9_as.1) := ⟨jWd_t5 (i := 89) rfl rfl, jWd_t5 (i := 90) rfl rfl⟩
theorem kX9_235 : jWd (.constant "MoonRoomsModel" 235 (16777215)) := jWd_t5 (i := 100) rfl rfl
abbrev m9_isSet : JM := (yX9_isSet, cX9_isSet, 1, some .boolean, RX9)
theorem sm9_isSet : jMs m9_isSet 1 := ⟨jWd_t5 (i := 99) rfl rfl, jWd_t1 (i := 11) rfl rfl, by decide +kernel, by decide, rfl⟩
theorem sm9_isSet_w : jWd (.static m9_isSet.1) := jWd_t5 (i := 98) rfl rfl
theorem lX9_236 : jWd (.methodLink "MoonRoomsModel" 236 yX9_isSet) := jWd_t5 (i := 97) rfl rfl
theorem lX9_239 : jWd (.methodLink "MoonRoomsModel" 239 yX9_isOut) := jWd_t5 (i := 101) rfl rfl
theorem kX9_242 : jWd (.constant "MoonRoomsModel" 242 (-1000000003)) := jWd_t5 (i := 105) rfl rfl
abbrev m9_lease : JM := (yX9_lease, cX9_lease, 3, some .int, RX9)
theorem sm9_lease : jMs m9_lease 2 := ⟨jWd_t5 (i := 96) rfl rfl, jWd_t1 (i := 11) rfl rfl, by decide +kernel, by decide, rfl⟩
theorem sm9_lease_w : jWd (.instanceMethod m9_lease.1) ∧ jWd (.selects m9_lease.1.cls m9_lease.1 m9_lease.1) := ⟨jWd_t5 (i := 94) rfl rfl, jWd_t5 (i := 95) rfl rfl⟩
abbrev m9_purse : JM := (yX9_purse, cX9_purse, 3, some .int, RX9)
theorem sm9_purse : jMs m9_purse 2 := ⟨jWd_t5 (i := 109) rfl rfl, jWd_t1 (i := 11) rfl rfl, by decide +kernel, by decide, rfl⟩
theorem sm9_purse_w : jWd (.instanceMethod m9_purse.1) ∧ jWd (.selects m9_purse.1.cls m9_purse.1 m9_purse.1) := ⟨jWd_t5 (i := 107) rfl rfl, jWd_t5 (i := 108) rfl rfl⟩
abbrev m9_manyOut : JM := (yX9_manyOut, cX9_manyOut, 3, some .int, RX9)
theorem sm9_manyOut : jMs m9_manyOut 0 := ⟨jWd_t5 (i := 117) rfl rfl, jWd_t1 (i := 11) rfl rfl, by decide +kernel, by decide, rfl⟩
theorem sm9_manyOut_w : jWd (.instanceMethod m9_manyOut.1) ∧ jWd (.selects m9_manyOut.1.cls m9_manyOut.1 m9_manyOut.1) := ⟨jWd_t5 (i := 116) rfl rfl, jWd_sel (i := 47) (n := 26) rfl⟩
theorem lX9_243 : jWd (.methodLink "MoonRoomsModel" 243 yX9_manyOut) := jWd_t5 (i := 114) rfl rfl
abbrev m9_pardon : JM := (yX9_pardon, cX9_pardon, 2, some .int, RX9)
theorem sm9_pardon : jMs m9_pardon 1 := ⟨jWd_t5 (i := 113) rfl rfl, jWd_t1 (i := 11) rfl rfl, by decide +kernel, by decide, rfl⟩
theorem sm9_pardon_w : jWd (.instanceMethod m9_pardon.1) ∧ jWd (.selects m9_pardon.1.cls m9_pardon.1 m9_pardon.1) := ⟨jWd_t5 (i := 111) rfl rfl, jWd_t5 (i := 112) rfl rfl⟩
abbrev m9_pays : JM := (yX9_pays, cX9_pays, 2, none, RX9)
theorem sm9_pays : jMs m9_pays 1 := ⟨jWd_t5 (i := 137) rfl rfl, jWd_t1 (i := 11) rfl rfl, by decide +kernel, by decide, rfl⟩
theorem sm9_pays_w : jWd (.instanceMethod m9_pays.1) ∧ jWd (.selects m9_pays.1.cls m9_pays.1 m9_pays.1) := ⟨jWd_t5 (i := 136) rfl rfl, jWd_sel (i := 51) (n := 26) rfl⟩
theorem lX9_246 : jWd (.methodLink "MoonRoomsModel" 246 yX9_earns) := jWd_t5 (i := 130) rfl rfl
theorem lX9_249 : jWd (.methodLink "MoonRoomsModel" 249 yX9_pays) := jWd_t5 (i := 134) rfl rfl
abbrev m9_night : JM := (yX9_night, cX9_night, 2, none, RX9)
theorem sm9_night : jMs m9_night 0 := ⟨jWd_t5 (i := 129) rfl rfl, jWd_t1 (i := 11) rfl rfl, by decide +kernel, by decide, rfl⟩
theorem sm9_night_w : jWd (.instanceMethod m9_night.1) ∧ jWd (.selects m9_night.1.cls m9_night.1 m9_night.1) := ⟨jWd_t5 (i := 128) rfl rfl, jWd_sel (i := 49) (n := 26) rfl⟩
theorem lX9_252 : jWd (.methodLink "MoonRoomsModel" 252 yX9_night) := jWd_t5 (i := 126) rfl rfl
abbrev m9_pass : JM := (yX9_pass, cX9_pass, 3, none, RX9)
theorem sm9_pass : jMs m9_pass 1 := ⟨jWd_t5 (i := 125) rfl rfl, jWd_t1 (i := 11) rfl rfl, by decide +kernel, by decide, rfl⟩
theorem sm9_pass_w : jWd (.instanceMethod m9_pass.1) ∧ jWd (.selects m9_pass.1.cls m9_pass.1 m9_pass.1) := ⟨jWd_t5 (i := 124) rfl rfl, jWd_sel (i := 48) (n := 26) rfl⟩
theorem lX9_255 : jWd (.methodLink "MoonRoomsModel" 255 yX9_pass) := jWd_t5 (i := 122) rfl rfl
abbrev m9_nights : JM := (yX9_nights, cX9_nights, 2, some .int, RX9)
theorem sm9_nights : jMs m9_nights 1 := ⟨jWd_t5 (i := 121) rfl rfl, jWd_t1 (i := 11) rfl rfl, by decide +kernel, by decide, rfl⟩
theorem sm9_nights_w : jWd (.instanceMethod m9_nights.1) ∧ jWd (.selects m9_nights.1.cls m9_nights.1 m9_nights.1) := ⟨jWd_t5 (i := 119) rfl rfl, jWd_t5 (i := 120) rfl rfl⟩
theorem kX9_258 : jWd (.constant "MoonRoomsModel" 258 (1103515245)) := jWd_t5 (i := 146) rfl rfl
abbrev m9_drawn : JM := (yX9_drawn, cX9_drawn, 1, some .int, RX9)
theorem sm9_drawn : jMs m9_drawn 0 := ⟨jWd_t5 (i := 145) rfl rfl, jWd_t1 (i := 11) rfl rfl, by decide +kernel, by decide, rfl⟩
theorem sm9_drawn_w : jWd (.instanceMethod m9_drawn.1) ∧ jWd (.selects m9_drawn.1.cls m9_drawn.1 m9_drawn.1) := ⟨jWd_t5 (i := 144) rfl rfl, jWd_sel (i := 52) (n := 26) rfl⟩
theorem lX9_259 : jWd (.methodLink "MoonRoomsModel" 259 yX9_drawn) := jWd_t5 (i := 142) rfl rfl
abbrev m9_takesByDraws : JM := (yX9_takesByDraws, cX9_takesByDraws, 3, none, RX9)
theorem sm9_takesByDraws : jMs m9_takesByDraws 0 := ⟨jWd_t5 (i := 150) rfl rfl, jWd_t1 (i := 11) rfl rfl, by decide +kernel, by decide, rfl⟩
theorem sm9_takesByDraws_w : jWd (.instanceMethod m9_takesByDraws.1) ∧ jWd (.selects m9_takesByDraws.1.cls m9_takesByDraws.1 m9_takesByDraws.1) := ⟨jWd_t5 (i := 149) rfl rfl, jWd_sel (i := 53) (n := 26) rfl⟩
theorem lX9_262 : jWd (.methodLink "MoonRoomsModel" 262 yX9_takesByDraws) := jWd_t5 (i := 147) rfl rfl
abbrev m9_loose : JM := (yX9_loose, cX9_loose, 3, some .int, RX9)
theorem sm9_loose : jMs m9_loose 1 := ⟨jWd_t5 (i := 141) rfl rfl, jWd_t1 (i := 11) rfl rfl, by decide +kernel, by decide, rfl⟩
theorem sm9_loose_w : jWd (.instanceMethod m9_loose.1) ∧ jWd (.selects m9_loose.1.cls m9_loose.1 m9_loose.1) := ⟨jWd_t5 (i := 139) rfl rfl, jWd_t5 (i := 140) rfl rfl⟩
theorem lX9_265 : jWd (.methodLink "MoonRoomsModel" 265 yX9_putBack) := jWd_t5 (i := 158) rfl rfl
abbrev m9_then : JM := (yX9_then, cX9_then, 4, some .int, RX9)
theorem sm9_then : jMs m9_then 3 := ⟨jWd_t5 (i := 154) rfl rfl, jWd_t1 (i := 11) rfl rfl, by decide +kernel, by decide, rfl⟩
theorem sm9_then_w : jWd (.instanceMethod m9_then.1) ∧ jWd (.selects m9_then.1.cls m9_then.1 m9_then.1) := ⟨jWd_t5 (i := 152) rfl rfl, jWd_t5 (i := 153) rfl rfl⟩
abbrev m9_often : JM := (yX9_often, cX9_often, 6, some .int, RX9)
theorem sm9_often : jMs m9_often 2 := ⟨jWd_t5 (i := 165) rfl rfl, jWd_t1 (i := 11) rfl rfl, by decide +kernel, by decide, rfl⟩
theorem sm9_often_w : jWd (.instanceMethod m9_often.1) ∧ jWd (.selects m9_often.1.cls m9_often.1 m9_often.1) := ⟨jWd_t5 (i := 163) rfl rfl, jWd_t5 (i := 164) rfl rfl⟩
theorem kX9_268 : jWd (.constant "MoonRoomsModel" 268 (-1000000002)) := jWd_t5 (i := 170) rfl rfl
abbrev m9_whole : JM := (yX9_whole, cX9_whole, 6, some .int, RX9)
theorem sm9_whole : jMs m9_whole 1 := ⟨jWd_t5 (i := 169) rfl rfl, jWd_t1 (i := 11) rfl rfl, by decide +kernel, by decide, rfl⟩
theorem sm9_whole_w : jWd (.instanceMethod m9_whole.1) ∧ jWd (.selects m9_whole.1.cls m9_whole.1 m9_whole.1) := ⟨jWd_t5 (i := 167) rfl rfl, jWd_t5 (i := 168) rfl rfl⟩
abbrev m9_stays : JM := (yX9_stays, cX9_stays, 4, some .int, RX9)
theorem sm9_stays : jMs m9_stays 1 := ⟨jWd_t5 (i := 174) rfl rfl, jWd_t1 (i := 11) rfl rfl, by decide +kernel, by decide, rfl⟩
theorem sm9_stays_w : jWd (.instanceMethod m9_stays.1) ∧ jWd (.selects m9_stays.1.cls m9_stays.1 m9_stays.1) := ⟨jWd_t5 (i := 172) rfl rfl, jWd_t5 (i := 173) rfl rfl⟩
abbrev m9_clashes : JM := (yX9_clashes, cX9_clashes, 4, some .boolean, RX9)
theorem sm9_clashes : jMs m9_clashes 2 := ⟨jWd_t5 (i := 186) rfl rfl, jWd_t1 (i := 11) rfl rfl, by decide +kernel, by decide, rfl⟩
theorem sm9_clashes_w : jWd (.instanceMethod m9_clashes.1) ∧ jWd (.selects m9_clashes.1.cls m9_clashes.1 m9_clashes.1) := ⟨jWd_t5 (i := 185) rfl rfl, jWd_sel (i := 56) (n := 26) rfl⟩
theorem lX9_269 : jWd (.methodLink "MoonRoomsModel" 269 yX9_clashes) := jWd_t5 (i := 183) rfl rfl
abbrev m9_clashBut : JM := (yX9_clashBut, cX9_clashBut, 5, some .int, RX9)
theorem sm9_clashBut : jMs m9_clashBut 1 := ⟨jWd_t5 (i := 182) rfl rfl, jWd_t1 (i := 11) rfl rfl, by decide +kernel, by decide, rfl⟩
theorem sm9_clashBut_w : jWd (.instanceMethod m9_clashBut.1) ∧ jWd (.selects m9_clashBut.1.cls m9_clashBut.1 m9_clashBut.1) := ⟨jWd_t5 (i := 181) rfl rfl, jWd_sel (i := 55) (n := 26) rfl⟩
theorem lX9_272 : jWd (.methodLink "MoonRoomsModel" 272 yX9_clashBut) := jWd_t5 (i := 179) rfl rfl
abbrev m9_clash : JM := (yX9_clash, cX9_clash, 1, some .int, RX9)
theorem sm9_clash : jMs m9_clash 0 := ⟨jWd_t5 (i := 178) rfl rfl, jWd_t1 (i := 11) rfl rfl, by decide +kernel, by decide, rfl⟩
theorem sm9_clash_w : jWd (.instanceMethod m9_clash.1) ∧ jWd (.selects m9_clash.1.cls m9_clash.1 m9_clash.1) := ⟨jWd_t5 (i := 176) rfl rfl, jWd_t5 (i := 177) rfl rfl⟩
abbrev m9_least : JM := (yX9_least, cX9_least, 4, some .int, RX9)
theorem sm9_least : jMs m9_least 1 := ⟨jWd_t5 (i := 190) rfl rfl, jWd_t1 (i := 11) rfl rfl, by decide +kernel, by decide, rfl⟩
theorem sm9_least_w : jWd (.instanceMethod m9_least.1) ∧ jWd (.selects m9_least.1.cls m9_least.1 m9_least.1) := ⟨jWd_t5 (i := 188) rfl rfl, jWd_t5 (i := 189) rfl rfl⟩
abbrev m9_beside : JM := (yX9_beside, cX9_beside, 7, some .int, RX9)
theorem sm9_beside : jMs m9_beside 1 := ⟨jWd_t5 (i := 194) rfl rfl, jWd_t1 (i := 11) rfl rfl, by decide +kernel, by decide, rfl⟩
theorem sm9_beside_w : jWd (.instanceMethod m9_beside.1) ∧ jWd (.selects m9_beside.1.cls m9_beside.1 m9_beside.1) := ⟨jWd_t5 (i := 192) rfl rfl, jWd_t5 (i := 193) rfl rfl⟩
theorem wX9_41 : jFd "MoonRoomsModel" 41 9 14 (.array .int) true := ⟨RX9, TX9, 26, tyX9, jcl_X9, by decide, ⟨rfl, rfl⟩, (Or.inl (jWd_t4 (i := 22) rfl rfl))⟩
theorem jr_86_14 : jrf 86 14 = 95 := by decide +kernel
theorem ji_mPl_95 : jI mPl 95 = true := by decide +kernel
theorem jl_95 : jlen 95 = 6 := by decide +kernel
theorem wX9_275 : jFd "MoonRoomsModel" 275 9 16 (.int) false := ⟨RX9, TX9, 26, tyX9, jcl_X9, by decide, ⟨rfl, rfl⟩, (Or.inl (jWd_t4 (i := 24) rfl rfl))⟩
theorem wX9_44 : jFd "MoonRoomsModel" 44 9 15 (.array .int) true := ⟨RX9, TX9, 26, tyX9, jcl_X9, by decide, ⟨rfl, rfl⟩, (Or.inl (jWd_t4 (i := 23) rfl rfl))⟩
theorem jr_86_15 : jrf 86 15 = 96 := by decide +kernel
theorem ji_mPl_96 : jI mPl 96 = true := by decide +kernel
theorem jl_96 : jlen 96 = 24 := by decide +kernel
theorem lX9_278 : jWd (.methodLink "MoonRoomsModel" 278 yX9_gets) := jWd_t5 (i := 210) rfl rfl
abbrev m9_gets : JM := (yX9_gets, cX9_gets, 3, some .boolean, RX9)
theorem sm9_gets : jMs m9_gets 1 := ⟨jWd_t5 (i := 213) rfl rfl, jWd_t1 (i := 11) rfl rfl, by decide +kernel, by decide, rfl⟩
theorem sm9_gets_w : jWd (.instanceMethod m9_gets.1) ∧ jWd (.selects m9_gets.1.cls m9_gets.1 m9_gets.1) := ⟨jWd_t5 (i := 212) rfl rfl, jWd_sel (i := 59) (n := 26) rfl⟩
abbrev m9_mostRooms : JM := (yX9_mostRooms, cX9_mostRooms, 3, some .int, RX9)
theorem sm9_mostRooms : jMs m9_mostRooms 0 := ⟨jWd_t5 (i := 209) rfl rfl, jWd_t1 (i := 11) rfl rfl, by decide +kernel, by decide, rfl⟩
theorem sm9_mostRooms_w : jWd (.instanceMethod m9_mostRooms.1) ∧ jWd (.selects m9_mostRooms.1.cls m9_mostRooms.1 m9_mostRooms.1) := ⟨jWd_t5 (i := 208) rfl rfl, jWd_sel (i := 58) (n := 26) rfl⟩
abbrev m9_isAlone : JM := (yX9_isAlone, cX9_isAlone, 4, some .boolean, RX9)
theorem sm9_isAlone : jMs m9_isAlone 1 := ⟨jWd_t5 (i := 221) rfl rfl, jWd_t1 (i := 11) rfl rfl, by decide +kernel, by decide, rfl⟩
theorem sm9_isAlone_w : jWd (.instanceMethod m9_isAlone.1) ∧ jWd (.selects m9_isAlone.1.cls m9_isAlone.1 m9_isAlone.1) := ⟨jWd_t5 (i := 220) rfl rfl, jWd_sel (i := 61) (n := 26) rfl⟩
theorem lX9_281 : jWd (.methodLink "MoonRoomsModel" 281 yX9_mostRooms) := jWd_t5 (i := 206) rfl rfl
theorem lX9_284 : jWd (.methodLink "MoonRoomsModel" 284 yX9_isAlone) := jWd_t5 (i := 218) rfl rfl
abbrev m9_settle : JM := (yX9_settle, cX9_settle, 6, none, RX9)
theorem sm9_settle : jMs m9_settle 1 := ⟨jWd_t5 (i := 217) rfl rfl, jWd_t1 (i := 11) rfl rfl, by decide +kernel, by decide, rfl⟩
theorem sm9_settle_w : jWd (.instanceMethod m9_settle.1) ∧ jWd (.selects m9_settle.1.cls m9_settle.1 m9_settle.1) := ⟨jWd_t5 (i := 216) rfl rfl, jWd_sel (i := 60) (n := 26) rfl⟩
theorem wX9_50 : jFd "MoonRoomsModel" 50 9 22 (.array .int) true := ⟨RX9, TX9, 26, tyX9, jcl_X9, by decide, ⟨rfl, rfl⟩, (Or.inl (jWd_t4 (i := 30) rfl rfl))⟩
theorem jr_86_22 : jrf 86 22 = 98 := by decide +kernel
theorem ji_mPl_98 : jI mPl 98 = true := by decide +kernel
theorem jl_98 : jlen 98 = 4 := by decide +kernel
theorem wX9_53 : jFd "MoonRoomsModel" 53 9 23 (.array .int) true := ⟨RX9, TX9, 26, tyX9, jcl_X9, by decide, ⟨rfl, rfl⟩, (Or.inl (jWd_t4 (i := 31) rfl rfl))⟩
theorem jr_86_23 : jrf 86 23 = 99 := by decide +kernel
theorem ji_mPl_99 : jI mPl 99 = true := by decide +kernel
theorem jl_99 : jlen 99 = 4 := by decide +kernel
theorem wX9_56 : jFd "MoonRoomsModel" 56 9 24 (.array .int) true := ⟨RX9, TX9, 26, tyX9, jcl_X9, by decide, ⟨rfl, rfl⟩, (Or.inl (jWd_t4 (i := 32) rfl rfl))⟩
theorem jr_86_24 : jrf 86 24 = 100 := by decide +kernel
theorem ji_mPl_100 : jI mPl 100 = true := by decide +kernel
theorem jl_100 : jlen 100 = 160 := by decide +kernel
abbrev m9_tellsWishes : JM := (yX9_tellsWishes, cX9_tellsWishes, 4, some .boolean, RX9)
theorem sm9_tellsWishes : jMs m9_tellsWishes 1 := ⟨jWd_t5 (i := 205) rfl rfl, jWd_t1 (i := 11) rfl rfl, by decide +kernel, by decide, rfl⟩
theorem sm9_tellsWishes_w : jWd (.instanceMethod m9_tellsWishes.1) ∧ jWd (.selects m9_tellsWishes.1.cls m9_tellsWishes.1 m9_tellsWishes.1) := ⟨jWd_t5 (i := 204) rfl rfl, jWd_sel (i := 57) (n := 26) rfl⟩
abbrev m9_isSheet : JM := (yX9_isSheet, cX9_isSheet, 1, some .boolean, RX9)
theorem sm9_isSheet : jMs m9_isSheet 1 := ⟨jWd_t5 (i := 201) rfl rfl, jWd_t1 (i := 11) rfl rfl, by decide +kernel, by decide, rfl⟩
theorem sm9_isSheet_w : jWd (.static m9_isSheet.1) := jWd_t5 (i := 200) rfl rfl
theorem lX9_287 : jWd (.methodLink "MoonRoomsModel" 287 yX9_isSheet) := jWd_t5 (i := 199) rfl rfl
theorem lX9_290 : jWd (.methodLink "MoonRoomsModel" 290 yX9_tellsWishes) := jWd_t5 (i := 202) rfl rfl
theorem lX9_293 : jWd (.methodLink "MoonRoomsModel" 293 yX9_settle) := jWd_t5 (i := 214) rfl rfl
abbrev m9_rooms : JM := (yX9_rooms, cX9_rooms, 6, some .int, RX9)
theorem sm9_rooms : jMs m9_rooms 2 := ⟨jWd_t5 (i := 198) rfl rfl, jWd_t1 (i := 11) rfl rfl, by decide +kernel, by decide, rfl⟩
theorem sm9_rooms_w : jWd (.instanceMethod m9_rooms.1) ∧ jWd (.selects m9_rooms.1.cls m9_rooms.1 m9_rooms.1) := ⟨jWd_t5 (i := 196) rfl rfl, jWd_t5 (i := 197) rfl rfl⟩
abbrev m9_falls : JM := (yX9_falls, cX9_falls, 4, some .int, RX9)
theorem sm9_falls : jMs m9_falls 2 := ⟨jWd_t5 (i := 225) rfl rfl, jWd_t1 (i := 11) rfl rfl, by decide +kernel, by decide, rfl⟩
theorem sm9_falls_w : jWd (.instanceMethod m9_falls.1) ∧ jWd (.selects m9_falls.1.cls m9_falls.1 m9_falls.1) := ⟨jWd_t5 (i := 223) rfl rfl, jWd_t5 (i := 224) rfl rfl⟩
abbrev m9_was : JM := (yX9_was, cX9_was, 6, some .int, RX9)
theorem sm9_was : jMs m9_was 1 := ⟨jWd_t5 (i := 229) rfl rfl, jWd_t1 (i := 11) rfl rfl, by decide +kernel, by decide, rfl⟩
theorem sm9_was_w : jWd (.instanceMethod m9_was.1) ∧ jWd (.selects m9_was.1.cls m9_was.1 m9_was.1) := ⟨jWd_t5 (i := 227) rfl rfl, jWd_t5 (i := 228) rfl rfl⟩
abbrev m9_dear : JM := (yX9_dear, cX9_dear, 6, some .int, RX9)
theorem sm9_dear : jMs m9_dear 1 := ⟨jWd_t5 (i := 233) rfl rfl, jWd_t1 (i := 11) rfl rfl, by decide +kernel, by decide, rfl⟩
theorem sm9_dear_w : jWd (.instanceMethod m9_dear.1) ∧ jWd (.selects m9_dear.1.cls m9_dear.1 m9_dear.1) := ⟨jWd_t5 (i := 231) rfl rfl, jWd_t5 (i := 232) rfl rfl⟩
abbrev m9_seed : JM := (yX9_seed, cX9_seed, 2, some .int, RX9)
theorem sm9_seed : jMs m9_seed 1 := ⟨jWd_t5 (i := 237) rfl rfl, jWd_t1 (i := 11) rfl rfl, by decide +kernel, by decide, rfl⟩
theorem sm9_seed_w : jWd (.instanceMethod m9_seed.1) ∧ jWd (.selects m9_seed.1.cls m9_seed.1 m9_seed.1) := ⟨jWd_t5 (i := 235) rfl rfl, jWd_t5 (i := 236) rfl rfl⟩
theorem wX9_296 : jFd "MoonRoomsModel" 296 9 18 (.int) false := ⟨RX9, TX9, 26, tyX9, jcl_X9, by decide, ⟨rfl, rfl⟩, (Or.inl (jWd_t4 (i := 26) rfl rfl))⟩
theorem wX9_47 : jFd "MoonRoomsModel" 47 9 17 (.array .int) true := ⟨RX9, TX9, 26, tyX9, jcl_X9, by decide, ⟨rfl, rfl⟩, (Or.inl (jWd_t4 (i := 25) rfl rfl))⟩
theorem jr_86_17 : jrf 86 17 = 97 := by decide +kernel
theorem ji_mPl_97 : jI mPl 97 = true := by decide +kernel
theorem jl_97 : jlen 97 = 40 := by decide +kernel
abbrev m9_runs : JM := (yX9_runs, cX9_runs, 2, none, RX9)
theorem sm9_runs : jMs m9_runs 1 := ⟨jWd_t6 (i := 9) rfl rfl, jWd_t1 (i := 11) rfl rfl, by decide +kernel, by decide, rfl⟩
theorem sm9_runs_w : jWd (.instanceMethod m9_runs.1) ∧ jWd (.selects m9_runs.1.cls m9_runs.1 m9_runs.1) := ⟨jWd_t6 (i := 8) rfl rfl, jWd_sel (i := 63) (n := 26) rfl⟩
theorem wX9_299 : jFd "MoonRoomsModel" 299 9 19 (.int) false := ⟨RX9, TX9, 26, tyX9, jcl_X9, by decide, ⟨rfl, rfl⟩, (Or.inl (jWd_t4 (i := 27) rfl rfl))⟩
theorem lX9_302 : jWd (.methodLink "MoonRoomsModel" 302 yX9_runs) := jWd_t6 (i := 6) rfl rfl
theorem wX9_305 : jFd "MoonRoomsModel" 305 9 20 (.int) false := ⟨RX9, TX9, 26, tyX9, jcl_X9, by decide, ⟨rfl, rfl⟩, (Or.inl (jWd_t4 (i := 28) rfl rfl))⟩
abbrev m9_looksOf : JM := (yX9_looksOf, cX9_looksOf, 3, some .int, RX9)
theorem sm9_looksOf : jMs m9_looksOf 1 := ⟨jWd_t6 (i := 5) rfl rfl, jWd_t1 (i := 11) rfl rfl, by decide +kernel, by decide, rfl⟩
theorem sm9_looksOf_w : jWd (.instanceMethod m9_looksOf.1) ∧ jWd (.selects m9_looksOf.1.cls m9_looksOf.1 m9_looksOf.1) := ⟨jWd_t6 (i := 4) rfl rfl, jWd_sel (i := 62) (n := 26) rfl⟩
theorem wX9_314 : jFd "MoonRoomsModel" 314 9 21 (.int) false := ⟨RX9, TX9, 26, tyX9, jcl_X9, by decide, ⟨rfl, rfl⟩, (Or.inl (jWd_t4 (i := 29) rfl rfl))⟩
abbrev m9_holdsOf : JM := (yX9_holdsOf, cX9_holdsOf, 4, some .int, RX9)
theorem sm9_holdsOf : jMs m9_holdsOf 1 := ⟨jWd_t6 (i := 17) rfl rfl, jWd_t1 (i := 11) rfl rfl, by decide +kernel, by decide, rfl⟩
theorem sm9_holdsOf_w : jWd (.instanceMethod m9_holdsOf.1) ∧ jWd (.selects m9_holdsOf.1.cls m9_holdsOf.1 m9_holdsOf.1) := ⟨jWd_t6 (i := 16) rfl rfl, jWd_sel (i := 65) (n := 26) rfl⟩
theorem lX9_308 : jWd (.methodLink "MoonRoomsModel" 308 yX9_looksOf) := jWd_t6 (i := 2) rfl rfl
theorem lX9_311 : jWd (.methodLink "MoonRoomsModel" 311 yX9_holdsOf) := jWd_t6 (i := 14) rfl rfl
abbrev m9_paysOf : JM := (yX9_paysOf, cX9_paysOf, 5, some .int, RX9)
theorem sm9_paysOf : jMs m9_paysOf 1 := ⟨jWd_t6 (i := 13) rfl rfl, jWd_t1 (i := 11) rfl rfl, by decide +kernel, by decide, rfl⟩
theorem sm9_paysOf_w : jWd (.instanceMethod m9_paysOf.1) ∧ jWd (.selects m9_paysOf.1.cls m9_paysOf.1 m9_paysOf.1) := ⟨jWd_t6 (i := 12) rfl rfl, jWd_sel (i := 64) (n := 26) rfl⟩
theorem lX9_317 : jWd (.methodLink "MoonRoomsModel" 317 yX9_paysOf) := jWd_t6 (i := 10) rfl rfl
abbrev m9_plainTells : JM := (yX9_plainTells, cX9_plainTells, 3, some .int, RX9)
theorem sm9_plainTells : jMs m9_plainTells 1 := ⟨jWd_t6 (i := 25) rfl rfl, jWd_t1 (i := 11) rfl rfl, by decide +kernel, by decide, rfl⟩
theorem sm9_plainTells_w : jWd (.instanceMethod m9_plainTells.1) ∧ jWd (.selects m9_plainTells.1.cls m9_plainTells.1 m9_plainTells.1) := ⟨jWd_t6 (i := 24) rfl rfl, jWd_sel (i := 67) (n := 26) rfl⟩
theorem lX9_320 : jWd (.methodLink "MoonRoomsModel" 320 yX9_plainTells) := jWd_t6 (i := 22) rfl rfl
abbrev m9_tellsOf : JM := (yX9_tellsOf, cX9_tellsOf, 3, some .int, RX9)
theorem sm9_tellsOf : jMs m9_tellsOf 1 := ⟨jWd_t6 (i := 21) rfl rfl, jWd_t1 (i := 11) rfl rfl, by decide +kernel, by decide, rfl⟩
theorem sm9_tellsOf_w : jWd (.instanceMethod m9_tellsOf.1) ∧ jWd (.selects m9_tellsOf.1.cls m9_tellsOf.1 m9_tellsOf.1) := ⟨jWd_t6 (i := 20) rfl rfl, jWd_sel (i := 66) (n := 26) rfl⟩
theorem lX9_323 : jWd (.methodLink "MoonRoomsModel" 323 yX9_tellsOf) := jWd_t6 (i := 18) rfl rfl
abbrev m9_voice : JM := (yX9_voice, cX9_voice, 4, some .int, RX9)
theorem sm9_voice : jMs m9_voice 3 := ⟨jWd_t6 (i := 1) rfl rfl, jWd_t1 (i := 11) rfl rfl, by decide +kernel, by decide, rfl⟩
theorem sm9_voice_w : jWd (.instanceMethod m9_voice.1) ∧ jWd (.selects m9_voice.1.cls m9_voice.1 m9_voice.1) := ⟨jWd_t5 (i := 239) rfl rfl, jWd_t6 (i := 0) rfl rfl⟩
abbrev m9_trace : JM := (yX9_trace, cX9_trace, 2, some .int, RX9)
theorem sm9_trace : jMs m9_trace 1 := ⟨jWd_t6 (i := 29) rfl rfl, jWd_t1 (i := 11) rfl rfl, by decide +kernel, by decide, rfl⟩
theorem sm9_trace_w : jWd (.instanceMethod m9_trace.1) ∧ jWd (.selects m9_trace.1.cls m9_trace.1 m9_trace.1) := ⟨jWd_t6 (i := 27) rfl rfl, jWd_t6 (i := 28) rfl rfl⟩
abbrev m9_sheet : JM := (yX9_sheet, cX9_sheet, 5, some .int, RX9)
theorem sm9_sheet : jMs m9_sheet 3 := ⟨jWd_t6 (i := 33) rfl rfl, jWd_t1 (i := 11) rfl rfl, by decide +kernel, by decide, rfl⟩
theorem sm9_sheet_w : jWd (.instanceMethod m9_sheet.1) ∧ jWd (.selects m9_sheet.1.cls m9_sheet.1 m9_sheet.1) := ⟨jWd_t6 (i := 31) rfl rfl, jWd_t6 (i := 32) rfl rfl⟩
abbrev m9_put : JM := (yX9_put, cX9_put, 4, some .int, RX9)
theorem sm9_put : jMs m9_put 3 := ⟨jWd_t6 (i := 37) rfl rfl, jWd_t1 (i := 11) rfl rfl, by decide +kernel, by decide, rfl⟩
theorem sm9_put_w : jWd (.instanceMethod m9_put.1) ∧ jWd (.selects m9_put.1.cls m9_put.1 m9_put.1) := ⟨jWd_t6 (i := 35) rfl rfl, jWd_t6 (i := 36) rfl rfl⟩
theorem wX9_59 : jFd "MoonRoomsModel" 59 9 25 (.array .int) true := ⟨RX9, TX9, 26, tyX9, jcl_X9, by decide, ⟨rfl, rfl⟩, (Or.inl (jWd_t4 (i := 33) rfl rfl))⟩
theorem jr_86_25 : jrf 86 25 = 101 := by decide +kernel
theorem ji_mPl_101 : jI mPl 101 = true := by decide +kernel
theorem jl_101 : jlen 101 = 40 := by decide +kernel
abbrev m9_move : JM := (yX9_move, cX9_move, 7, some .int, RX9)
theorem sm9_move : jMs m9_move 5 := ⟨jWd_t6 (i := 41) rfl rfl, jWd_t1 (i := 11) rfl rfl, by decide +kernel, by decide, rfl⟩
theorem sm9_move_w : jWd (.instanceMethod m9_move.1) ∧ jWd (.selects m9_move.1.cls m9_move.1 m9_move.1) := ⟨jWd_t6 (i := 39) rfl rfl, jWd_t6 (i := 40) rfl rfl⟩
abbrev m9_leases : JM := (yX9_leases, cX9_leases, 3, some .int, RX9)
theorem sm9_leases : jMs m9_leases 1 := ⟨jWd_t6 (i := 45) rfl rfl, jWd_t1 (i := 11) rfl rfl, by decide +kernel, by decide, rfl⟩
theorem sm9_leases_w : jWd (.instanceMethod m9_leases.1) ∧ jWd (.selects m9_leases.1.cls m9_leases.1 m9_leases.1) := ⟨jWd_t6 (i := 43) rfl rfl, jWd_t6 (i := 44) rfl rfl⟩
abbrev m9_judge : JM := (yX9_judge, cX9_judge, 3, some .int, RX9)
theorem sm9_judge : jMs m9_judge 1 := ⟨jWd_t6 (i := 49) rfl rfl, jWd_t1 (i := 11) rfl rfl, by decide +kernel, by decide, rfl⟩
theorem sm9_judge_w : jWd (.instanceMethod m9_judge.1) ∧ jWd (.selects m9_judge.1.cls m9_judge.1 m9_judge.1) := ⟨jWd_t6 (i := 47) rfl rfl, jWd_t6 (i := 48) rfl rfl⟩
theorem wX9_13 : jFd "MoonRoomsModel" 13 9 1 (.array .int) true := ⟨RX9, TX9, 26, tyX9, jcl_X9, by decide, ⟨rfl, rfl⟩, (Or.inl (jWd_t4 (i := 9) rfl rfl))⟩
theorem jr_86_1 : jrf 86 1 = 88 := by decide +kernel
theorem wX9_326 : jFd "MoonRoomsModel" 326 9 3 (.int) false := ⟨RX9, TX9, 26, tyX9, jcl_X9, by decide, ⟨rfl, rfl⟩, (Or.inl (jWd_t4 (i := 11) rfl rfl))⟩
abbrev m9_image : JM := (yX9_image, cX9_image, 1, some .int, RX9)
theorem sm9_image : jMs m9_image 0 := ⟨jWd_t6 (i := 53) rfl rfl, jWd_t1 (i := 11) rfl rfl, by decide +kernel, by decide, rfl⟩
theorem sm9_image_w : jWd (.instanceMethod m9_image.1) ∧ jWd (.selects m9_image.1.cls m9_image.1 m9_image.1) := ⟨jWd_t6 (i := 51) rfl rfl, jWd_t6 (i := 52) rfl rfl⟩
abbrev m9_restore : JM := (yX9_restore, cX9_restore, 1, some .int, RX9)
theorem sm9_restore : jMs m9_restore 0 := ⟨jWd_t6 (i := 57) rfl rfl, jWd_t1 (i := 11) rfl rfl, by decide +kernel, by decide, rfl⟩
theorem sm9_restore_w : jWd (.instanceMethod m9_restore.1) ∧ jWd (.selects m9_restore.1.cls m9_restore.1 m9_restore.1) := ⟨jWd_t6 (i := 55) rfl rfl, jWd_t6 (i := 56) rfl rfl⟩
abbrev m9_tell : JM := (yX9_tell, cX9_tell, 2, some .int, RX9)
theorem sm9_tell : jMs m9_tell 1 := ⟨jWd_t6 (i := 61) rfl rfl, jWd_t1 (i := 11) rfl rfl, by decide +kernel, by decide, rfl⟩
theorem sm9_tell_w : jWd (.instanceMethod m9_tell.1) ∧ jWd (.selects m9_tell.1.cls m9_tell.1 m9_tell.1) := ⟨jWd_t6 (i := 59) rfl rfl, jWd_t6 (i := 60) rfl rfl⟩
abbrev m9_check : JM := (yX9_check, cX9_check, 5, some .int, RX9)
theorem sm9_check : jMs m9_check 0 := ⟨jWd_t6 (i := 65) rfl rfl, jWd_t1 (i := 11) rfl rfl, by decide +kernel, by decide, rfl⟩
theorem sm9_check_w : jWd (.instanceMethod m9_check.1) ∧ jWd (.selects m9_check.1.cls m9_check.1 m9_check.1) := ⟨jWd_t6 (i := 63) rfl rfl, jWd_t6 (i := 64) rfl rfl⟩
abbrev m9_heldNow : JM := (yX9_heldNow, cX9_heldNow, 3, some .int, RX9)
theorem sm9_heldNow : jMs m9_heldNow 0 := ⟨jWd_t6 (i := 73) rfl rfl, jWd_t1 (i := 11) rfl rfl, by decide +kernel, by decide, rfl⟩
theorem sm9_heldNow_w : jWd (.instanceMethod m9_heldNow.1) ∧ jWd (.selects m9_heldNow.1.cls m9_heldNow.1 m9_heldNow.1) := ⟨jWd_t6 (i := 72) rfl rfl, jWd_sel (i := 68) (n := 26) rfl⟩
theorem lX9_329 : jWd (.methodLink "MoonRoomsModel" 329 yX9_heldNow) := jWd_t6 (i := 70) rfl rfl
abbrev m9_count : JM := (yX9_count, cX9_count, 2, some .int, RX9)
theorem sm9_count : jMs m9_count 1 := ⟨jWd_t6 (i := 69) rfl rfl, jWd_t1 (i := 11) rfl rfl, by decide +kernel, by decide, rfl⟩
theorem sm9_count_w : jWd (.instanceMethod m9_count.1) ∧ jWd (.selects m9_count.1.cls m9_count.1 m9_count.1) := ⟨jWd_t6 (i := 67) rfl rfl, jWd_t6 (i := 68) rfl rfl⟩
abbrev m9_told : JM := (yX9_told, cX9_told, 2, some .int, RX9)
theorem sm9_told : jMs m9_told 1 := ⟨jWd_t6 (i := 77) rfl rfl, jWd_t1 (i := 11) rfl rfl, by decide +kernel, by decide, rfl⟩
theorem sm9_told_w : jWd (.instanceMethod m9_told.1) ∧ jWd (.selects m9_told.1.cls m9_told.1 m9_told.1) := ⟨jWd_t6 (i := 75) rfl rfl, jWd_t6 (i := 76) rfl rfl⟩

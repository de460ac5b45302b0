/-! CONSTRUCTORS (wip/whole/gen/genn.py) -/
abbrev m0_init : JM := (yX0_init, cX0_init, 2, none, RX0)
theorem sm0_init : jMs m0_init 0 := ⟨jWd_t1 (i := 30) rfl rfl, jWd_t1 (i := 2) rfl rfl, by decide +kernel, by decide, rfl⟩
theorem im0_init : jWd (.instanceMethod m0_init.1) := jWd_t1 (i := 29) rfl rfl
theorem ni_X0 : jWd (.instantiable RX0 9) := jWd_t1 (i := 27) rfl rfl
theorem nn_X0 : jWd (.initialized RX0) := jWd_t1 (i := 2) rfl rfl
abbrev m1_init : JM := (yX1_init, cX1_init, 2, none, RX1)
theorem sm1_init : jMs m1_init 1 := ⟨jWd_t1 (i := 59) rfl rfl, jWd_t1 (i := 5) rfl rfl, by decide +kernel, by decide, rfl⟩
theorem im1_init : jWd (.instanceMethod m1_init.1) := jWd_t1 (i := 58) rfl rfl
theorem ni_X1 : jWd (.instantiable RX1 3) := jWd_t1 (i := 56) rfl rfl
theorem nn_X1 : jWd (.initialized RX1) := jWd_t1 (i := 5) rfl rfl
abbrev m2_init : JM := (yX2_init, cX2_init, 1, none, RX2)
theorem sm2_init : jMs m2_init 0 := ⟨jWd_t1 (i := 145) rfl rfl, jWd_t1 (i := 7) rfl rfl, by decide +kernel, by decide, rfl⟩
theorem im2_init : jWd (.instanceMethod m2_init.1) := jWd_t1 (i := 144) rfl rfl
theorem ni_X2 : jWd (.instantiable RX2 4) := jWd_t1 (i := 142) rfl rfl
theorem nn_X2 : jWd (.initialized RX2) := jWd_t1 (i := 7) rfl rfl
abbrev m3_init : JM := (yX3_init, cX3_init, 2, none, RX3)
theorem sm3_init : jMs m3_init 1 := ⟨jWd_t1 (i := 38) rfl rfl, jWd_t1 (i := 3) rfl rfl, by decide +kernel, by decide, rfl⟩
theorem im3_init : jWd (.instanceMethod m3_init.1) := jWd_t1 (i := 37) rfl rfl
theorem ni_X3 : jWd (.instantiable RX3 2) := jWd_t1 (i := 35) rfl rfl
theorem nn_X3 : jWd (.initialized RX3) := jWd_t1 (i := 3) rfl rfl
abbrev m4_init : JM := (yX4_init, cX4_init, 1, none, RX4)
theorem sm4_init : jMs m4_init 0 := ⟨jWd_t1 (i := 203) rfl rfl, jWd_t1 (i := 10) rfl rfl, by decide +kernel, by decide, rfl⟩
theorem im4_init : jWd (.instanceMethod m4_init.1) := jWd_t1 (i := 202) rfl rfl
theorem ni_X4 : jWd (.instantiable RX4 2) := jWd_t1 (i := 200) rfl rfl
theorem nn_X4 : jWd (.initialized RX4) := jWd_t1 (i := 10) rfl rfl
abbrev m5_init : JM := (yX5_init, cX5_init, 1, none, RX5)
theorem sm5_init : jMs m5_init 0 := ⟨jWd_t1 (i := 167) rfl rfl, jWd_t1 (i := 8) rfl rfl, by decide +kernel, by decide, rfl⟩
theorem im5_init : jWd (.instanceMethod m5_init.1) := jWd_t1 (i := 166) rfl rfl
theorem ni_X5 : jWd (.instantiable RX5 4) := jWd_t1 (i := 164) rfl rfl
theorem nn_X5 : jWd (.initialized RX5) := jWd_t1 (i := 8) rfl rfl
abbrev m6_init : JM := (yX6_init, cX6_init, 1, none, RX6)
theorem sm6_init : jMs m6_init 0 := ⟨jWd_t1 (i := 77) rfl rfl, jWd_t1 (i := 6) rfl rfl, by decide +kernel, by decide, rfl⟩
theorem im6_init : jWd (.instanceMethod m6_init.1) := jWd_t1 (i := 76) rfl rfl
theorem ni_X6 : jWd (.instantiable RX6 5) := jWd_t1 (i := 74) rfl rfl
theorem nn_X6 : jWd (.initialized RX6) := jWd_t1 (i := 6) rfl rfl
abbrev m7_init : JM := (yX7_init, cX7_init, 1, none, RX7)
theorem sm7_init : jMs m7_init 0 := ⟨jWd_t1 (i := 189) rfl rfl, jWd_t1 (i := 9) rfl rfl, by decide +kernel, by decide, rfl⟩
theorem im7_init : jWd (.instanceMethod m7_init.1) := jWd_t1 (i := 188) rfl rfl
theorem ni_X7 : jWd (.instantiable RX7 1) := jWd_t1 (i := 186) rfl rfl
theorem nn_X7 : jWd (.initialized RX7) := jWd_t1 (i := 9) rfl rfl
abbrev m8_init : JM := (yX8_init, cX8_init, 2, none, RX8)
theorem sm8_init : jMs m8_init 0 := ⟨jWd_t1 (i := 22) rfl rfl, jWd_t1 (i := 1) rfl rfl, by decide +kernel, by decide, rfl⟩
theorem im8_init : jWd (.instanceMethod m8_init.1) := jWd_t1 (i := 21) rfl rfl
theorem ni_X8 : jWd (.instantiable RX8 9) := jWd_t1 (i := 19) rfl rfl
theorem nn_X8 : jWd (.initialized RX8) := jWd_t1 (i := 1) rfl rfl
abbrev m9_init : JM := (yX9_init, cX9_init, 1, none, RX9)
theorem sm9_init : jMs m9_init 0 := ⟨jWd_t4 (i := 2) rfl rfl, jWd_t1 (i := 11) rfl rfl, by decide +kernel, by decide, rfl⟩
theorem im9_init : jWd (.instanceMethod m9_init.1) := jWd_t4 (i := 1) rfl rfl
theorem ni_X9 : jWd (.instantiable RX9 26) := jWd_t3 (i := 239) rfl rfl
theorem nn_X9 : jWd (.initialized RX9) := jWd_t1 (i := 11) rfl rfl
theorem no_i : jWd (.instanceMethod Lib.objectInit) := jWd_t1 (i := 24) rfl rfl
theorem no_c : jWd (.code Lib.objectInit ⟨#[0xb1]⟩ 1 none) := jWd_t1 (i := 25) rfl rfl
theorem na_i : jWd (.arrayClass .int) := jWd_t1 (i := 54) rfl rfl
theorem ao_T : ∀ {ad : Nat → Nat} (s : State) (A : Nat → Prop), nE ad A s → va_AO "MoonRooms$Tenant" s := fun _ _ h => h.2.1.1
theorem ao_S : ∀ {ad : Nat → Nat} (s : State) (A : Nat → Prop), nE ad A s → va_AO "MoonRooms$Sheet" s := fun _ _ h => h.2.1.2.1
theorem ao_G : ∀ {ad : Nat → Nat} (s : State) (A : Nat → Prop), nE ad A s → va_AO "java/lang/String" s := fun _ _ h => h.2.1.2.2
theorem nlX3_1 : jWd (.methodLink RX3 1 Lib.objectInit) := jWd_t1 (i := 39) rfl rfl
theorem nlX3_7 : jWd (.methodLink RX3 7 Lib.Math.max.name) := jWd_t1 (i := 40) rfl rfl
theorem nx_s : jWd (.static Lib.Math.max.name) := jWd_t1 (i := 41) rfl rfl
theorem nx_i : jWd (.initialized "java/lang/Math") := jWd_t1 (i := 4) rfl rfl
theorem nx_c : jWd (.code Lib.Math.max.name Lib.Math.max.code 2 (some .int)) := jWd_t1 (i := 42) rfl rfl
theorem nfX3_13 : jWd (.fieldLink RX3 13 (TX3 0).1 (TX3 0).2.1 (TX3 0).2.2.1) := jWd_t1 (i := 43) rfl rfl
theorem nlX6_3 : jWd (.methodLink RX6 3 Lib.objectInit) := jWd_t1 (i := 78) rfl rfl
theorem nlX1_3 : jWd (.methodLink RX1 3 Lib.objectInit) := jWd_t1 (i := 60) rfl rfl
theorem ncX1_9 : jWd (.classLink RX1 9 RX3) := jWd_t1 (i := 61) rfl rfl
theorem nlX1_11 : jWd (.methodLink RX1 11 m3_init.1) := jWd_t1 (i := 62) rfl rfl
theorem nfX1_14 : jWd (.fieldLink RX1 14 (TX1 1).1 (TX1 1).2.1 (TX1 1).2.2.1) := jWd_t1 (i := 64) rfl rfl
theorem nfX1_20 : jWd (.fieldLink RX1 20 (TX1 2).1 (TX1 2).2.1 (TX1 2).2.2.1) := jWd_t1 (i := 66) rfl rfl
theorem nfX1_24 : jWd (.fieldLink RX1 24 (TX1 0).1 (TX1 0).2.1 (TX1 0).2.2.1) := jWd_t1 (i := 63) rfl rfl
theorem nlX4_3 : jWd (.methodLink RX4 3 Lib.objectInit) := jWd_t1 (i := 204) rfl rfl
theorem ncX4_9 : jWd (.classLink RX4 9 RX3) := jWd_t1 (i := 205) rfl rfl
theorem nlX4_11 : jWd (.methodLink RX4 11 m3_init.1) := jWd_t1 (i := 206) rfl rfl
theorem nfX4_14 : jWd (.fieldLink RX4 14 (TX4 0).1 (TX4 0).2.1 (TX4 0).2.2.1) := jWd_t1 (i := 207) rfl rfl
theorem nlX5_3 : jWd (.methodLink RX5 3 Lib.objectInit) := jWd_t1 (i := 168) rfl rfl
theorem ncX5_9 : jWd (.classLink RX5 9 RX3) := jWd_t1 (i := 169) rfl rfl
theorem nlX5_11 : jWd (.methodLink RX5 11 m3_init.1) := jWd_t1 (i := 170) rfl rfl
theorem nfX5_14 : jWd (.fieldLink RX5 14 (TX5 0).1 (TX5 0).2.1 (TX5 0).2.2.1) := jWd_t1 (i := 171) rfl rfl
theorem nlX7_3 : jWd (.methodLink RX7 3 Lib.objectInit) := jWd_t1 (i := 190) rfl rfl
theorem ncX7_9 : jWd (.classLink RX7 9 RX3) := jWd_t1 (i := 191) rfl rfl
theorem nlX7_11 : jWd (.methodLink RX7 11 m3_init.1) := jWd_t1 (i := 192) rfl rfl
theorem nfX7_14 : jWd (.fieldLink RX7 14 (TX7 0).1 (TX7 0).2.1 (TX7 0).2.2.1) := jWd_t1 (i := 193) rfl rfl
theorem nlX2_3 : jWd (.methodLink RX2 3 Lib.objectInit) := jWd_t1 (i := 146) rfl rfl
theorem ncX2_9 : jWd (.classLink RX2 9 RX3) := jWd_t1 (i := 147) rfl rfl
theorem nlX2_11 : jWd (.methodLink RX2 11 m3_init.1) := jWd_t1 (i := 148) rfl rfl
theorem nfX2_14 : jWd (.fieldLink RX2 14 (TX2 0).1 (TX2 0).2.1 (TX2 0).2.2.1) := jWd_t1 (i := 149) rfl rfl
theorem nfX2_20 : jWd (.fieldLink RX2 20 (TX2 1).1 (TX2 1).2.1 (TX2 1).2.2.1) := jWd_t1 (i := 150) rfl rfl
section NCT
variable {ad : Nat → Nat} {cA : Nat → ClassId}
theorem nc_3 (v : Nat) (hv : v ≤ 1000) : NC ad cA m3_init 1 1 v 3 [.null, .int 0] [.int (nI v)] (fun h0 w => ∃ q, w = [(h0, .inr (3, [.ref q, .int 0])), (q, .inl (cA 0, v, .inl (fun _ => 0)))]) := by
  refine NC_of (L0 := fun h0 => [some (.ref h0), some (.int (nI v))]) sm3_init rfl rfl (fun x hx => ⟨_, List.mem_singleton.mp hx⟩) (fun _ => Nat.le_of_ble_eq_true rfl) (fun _ => rfl) (fun h0 => ?_)
  refine N_aload_n dX3_init_0 rfl ?_
  refine N_obj dX3_init_1 nlX3_1 no_i no_c (Nat.le_of_ble_eq_true rfl) (Nat.le_of_ble_eq_true rfl) ?_
  refine N_aload_n dX3_init_4 rfl ?_
  refine N_iconst (v := nI 0) dX3_init_5 (by decide) ?_
  refine N_iload_n dX3_init_6 rfl ?_
  refine N_max (v := nI v) dX3_init_7 nlX3_7 nx_s nx_i nx_c (Nat.le_of_ble_eq_true rfl) (Nat.le_of_ble_eq_true rfl) (by omega) (by omega) ?_ ?_
  · by_cases e : v = 0
    · subst e; rw [if_neg (by decide)]
    · rw [if_pos (by rw [ltI (by omega) (by omega)]; omega)]
  refine N_newa (N := v) dX3_init_10 na_i (nI_pos (by omega)) (nI_clamp (by omega)) (by omega) (by omega) (by omega) (fun q => ?_)
  refine N_putF (i := 0) (j := 0) (ty := .array .int) dX3_init_12 jcl_X3 nfX3_13 (by decide) rfl rfl (by decide +kernel) rfl rfl (Nat.le_of_ble_eq_true rfl) rfl ?_
  exact N_ret dX3_init_15 (by omega) (by omega) ⟨q, rfl⟩
theorem nc_6 : NC ad cA m6_init 1 0 0 6 [.int 0, .int 0, .int 0, .int 0, .int 0] [] (fun h0 w => w = [(h0, .inr (6, [.int 0, .int 0, .int 0, .int 0, .int 0]))]) := by
  refine NC_of (L0 := fun h0 => [some (.ref h0)]) sm6_init rfl rfl (fun x hx => absurd hx List.not_mem_nil) (fun _ => Nat.le_of_ble_eq_true rfl) (fun _ => rfl) (fun h0 => ?_)
  refine N_aload_n dX6_init_0 rfl ?_
  refine N_obj dX6_init_1 nlX6_3 no_i no_c (Nat.le_of_ble_eq_true rfl) (Nat.le_of_ble_eq_true rfl) ?_
  exact N_ret dX6_init_4 (Nat.le_of_ble_eq_true rfl) (Nat.le_of_ble_eq_true rfl) rfl
theorem nc_1 (v : Int32) : NC ad cA m1_init 2 3 102 1 [.int 0, .null, .null] [.int v] (fun h0 w => ∃ r q u, w = [(h0, .inr (1, [.int v, .ref r, .ref u])), (r, .inr (3, [.ref q, .int 0])), (q, .inl (cA 0, 50, .inl (fun _ => 0))), (u, .inl (cA 0, 50, .inl (fun _ => 0)))]) := by
  refine NC_of (L0 := fun h0 => [some (.ref h0), some (.int v)]) sm1_init rfl rfl (fun x hx => ⟨_, List.mem_singleton.mp hx⟩) (fun _ => Nat.le_of_ble_eq_true rfl) (fun _ => rfl) (fun h0 => ?_)
  refine N_aload_n dX1_init_0 rfl ?_
  refine N_obj dX1_init_1 nlX1_3 no_i no_c (Nat.le_of_ble_eq_true rfl) (Nat.le_of_ble_eq_true rfl) ?_
  refine N_aload_n dX1_init_4 rfl ?_
  refine N_new dX1_init_5 jcl_X3 ncX1_9 ni_X3 nn_X3 (fs := [.null, .int 0]) (fun j hj => by rcases (show j = 0 ∨ j = 1 by omega) with rfl | rfl <;> rfl) (Nat.le_of_ble_eq_true rfl) (Nat.le_of_ble_eq_true rfl) (fun q1 => ?_)
  refine N_dup dX1_init_8 rfl ?_
  refine N_bipush (v := nI 50) dX1_init_9 (by decide) ?_
  refine N_init (as := [.int (nI 50)]) dX1_init_11 nlX1_11 sm3_init rfl rfl im3_init (Nat.le_of_ble_eq_true rfl) rfl (Nat.le_of_ble_eq_true rfl) (nc_3 50 (Nat.le_of_ble_eq_true rfl)) (Nat.le_of_ble_eq_true rfl) (Nat.le_of_ble_eq_true rfl) (fun w hw => ?_)
  obtain ⟨r2, rfl⟩ := hw
  refine N_putF (i := 0) (j := 1) (ty := .object "MoonRooms$Row") dX1_init_14 jcl_X1 nfX1_14 (by decide) rfl rfl (by decide +kernel) rfl rfl (Nat.le_of_ble_eq_true rfl) rfl ?_
  refine N_aload_n dX1_init_17 rfl ?_
  refine N_bipush (v := nI 50) dX1_init_18 (by decide) ?_
  refine N_newa (N := 50) dX1_init_20 na_i (by decide) (by decide) (Nat.le_of_ble_eq_true rfl) (Nat.le_of_ble_eq_true rfl) (Nat.le_of_ble_eq_true rfl) (fun q3 => ?_)
  refine N_putF (i := 0) (j := 2) (ty := .array .int) dX1_init_22 jcl_X1 nfX1_20 (by decide) rfl rfl (by decide +kernel) rfl rfl (Nat.le_of_ble_eq_true rfl) rfl ?_
  refine N_aload_n dX1_init_25 rfl ?_
  refine N_iload_n dX1_init_26 rfl ?_
  refine N_putF (i := 0) (j := 0) (ty := .int) dX1_init_27 jcl_X1 nfX1_24 (by decide) rfl rfl (by decide +kernel) rfl rfl (Nat.le_of_ble_eq_true rfl) rfl ?_
  exact N_ret dX1_init_30 (Nat.le_of_ble_eq_true rfl) (Nat.le_of_ble_eq_true rfl) ⟨q1, r2, q3, rfl⟩
theorem nc_4 : NC ad cA m4_init 2 2 42 4 [.null, .int 0] [] (fun h0 w => ∃ r q, w = [(h0, .inr (4, [.ref r, .int 0])), (r, .inr (3, [.ref q, .int 0])), (q, .inl (cA 0, 40, .inl (fun _ => 0)))]) := by
  refine NC_of (L0 := fun h0 => [some (.ref h0)]) sm4_init rfl rfl (fun x hx => absurd hx List.not_mem_nil) (fun _ => Nat.le_of_ble_eq_true rfl) (fun _ => rfl) (fun h0 => ?_)
  refine N_aload_n dX4_init_0 rfl ?_
  refine N_obj dX4_init_1 nlX4_3 no_i no_c (Nat.le_of_ble_eq_true rfl) (Nat.le_of_ble_eq_true rfl) ?_
  refine N_aload_n dX4_init_4 rfl ?_
  refine N_new dX4_init_5 jcl_X3 ncX4_9 ni_X3 nn_X3 (fs := [.null, .int 0]) (fun j hj => by rcases (show j = 0 ∨ j = 1 by omega) with rfl | rfl <;> rfl) (Nat.le_of_ble_eq_true rfl) (Nat.le_of_ble_eq_true rfl) (fun q1 => ?_)
  refine N_dup dX4_init_8 rfl ?_
  refine N_bipush (v := nI 40) dX4_init_9 (by decide) ?_
  refine N_init (as := [.int (nI 40)]) dX4_init_11 nlX4_11 sm3_init rfl rfl im3_init (Nat.le_of_ble_eq_true rfl) rfl (Nat.le_of_ble_eq_true rfl) (nc_3 40 (Nat.le_of_ble_eq_true rfl)) (Nat.le_of_ble_eq_true rfl) (Nat.le_of_ble_eq_true rfl) (fun w hw => ?_)
  obtain ⟨r2, rfl⟩ := hw
  refine N_putF (i := 0) (j := 0) (ty := .object "MoonRooms$Row") dX4_init_14 jcl_X4 nfX4_14 (by decide) rfl rfl (by decide +kernel) rfl rfl (Nat.le_of_ble_eq_true rfl) rfl ?_
  exact N_ret dX4_init_17 (Nat.le_of_ble_eq_true rfl) (Nat.le_of_ble_eq_true rfl) ⟨q1, r2, rfl⟩
theorem nc_5 : NC ad cA m5_init 2 2 42 5 [.null, .int 0, .int 0, .int 0] [] (fun h0 w => ∃ r q, w = [(h0, .inr (5, [.ref r, .int 0, .int 0, .int 0])), (r, .inr (3, [.ref q, .int 0])), (q, .inl (cA 0, 40, .inl (fun _ => 0)))]) := by
  refine NC_of (L0 := fun h0 => [some (.ref h0)]) sm5_init rfl rfl (fun x hx => absurd hx List.not_mem_nil) (fun _ => Nat.le_of_ble_eq_true rfl) (fun _ => rfl) (fun h0 => ?_)
  refine N_aload_n dX5_init_0 rfl ?_
  refine N_obj dX5_init_1 nlX5_3 no_i no_c (Nat.le_of_ble_eq_true rfl) (Nat.le_of_ble_eq_true rfl) ?_
  refine N_aload_n dX5_init_4 rfl ?_
  refine N_new dX5_init_5 jcl_X3 ncX5_9 ni_X3 nn_X3 (fs := [.null, .int 0]) (fun j hj => by rcases (show j = 0 ∨ j = 1 by omega) with rfl | rfl <;> rfl) (Nat.le_of_ble_eq_true rfl) (Nat.le_of_ble_eq_true rfl) (fun q1 => ?_)
  refine N_dup dX5_init_8 rfl ?_
  refine N_bipush (v := nI 40) dX5_init_9 (by decide) ?_
  refine N_init (as := [.int (nI 40)]) dX5_init_11 nlX5_11 sm3_init rfl rfl im3_init (Nat.le_of_ble_eq_true rfl) rfl (Nat.le_of_ble_eq_true rfl) (nc_3 40 (Nat.le_of_ble_eq_true rfl)) (Nat.le_of_ble_eq_true rfl) (Nat.le_of_ble_eq_true rfl) (fun w hw => ?_)
  obtain ⟨r2, rfl⟩ := hw
  refine N_putF (i := 0) (j := 0) (ty := .object "MoonRooms$Row") dX5_init_14 jcl_X5 nfX5_14 (by decide) rfl rfl (by decide +kernel) rfl rfl (Nat.le_of_ble_eq_true rfl) rfl ?_
  exact N_ret dX5_init_17 (Nat.le_of_ble_eq_true rfl) (Nat.le_of_ble_eq_true rfl) ⟨q1, r2, rfl⟩
theorem nc_7 : NC ad cA m7_init 2 2 8 7 [.null] [] (fun h0 w => ∃ r q, w = [(h0, .inr (7, [.ref r])), (r, .inr (3, [.ref q, .int 0])), (q, .inl (cA 0, 6, .inl (fun _ => 0)))]) := by
  refine NC_of (L0 := fun h0 => [some (.ref h0)]) sm7_init rfl rfl (fun x hx => absurd hx List.not_mem_nil) (fun _ => Nat.le_of_ble_eq_true rfl) (fun _ => rfl) (fun h0 => ?_)
  refine N_aload_n dX7_init_0 rfl ?_
  refine N_obj dX7_init_1 nlX7_3 no_i no_c (Nat.le_of_ble_eq_true rfl) (Nat.le_of_ble_eq_true rfl) ?_
  refine N_aload_n dX7_init_4 rfl ?_
  refine N_new dX7_init_5 jcl_X3 ncX7_9 ni_X3 nn_X3 (fs := [.null, .int 0]) (fun j hj => by rcases (show j = 0 ∨ j = 1 by omega) with rfl | rfl <;> rfl) (Nat.le_of_ble_eq_true rfl) (Nat.le_of_ble_eq_true rfl) (fun q1 => ?_)
  refine N_dup dX7_init_8 rfl ?_
  refine N_bipush (v := nI 6) dX7_init_9 (by decide) ?_
  refine N_init (as := [.int (nI 6)]) dX7_init_11 nlX7_11 sm3_init rfl rfl im3_init (Nat.le_of_ble_eq_true rfl) rfl (Nat.le_of_ble_eq_true rfl) (nc_3 6 (Nat.le_of_ble_eq_true rfl)) (Nat.le_of_ble_eq_true rfl) (Nat.le_of_ble_eq_true rfl) (fun w hw => ?_)
  obtain ⟨r2, rfl⟩ := hw
  refine N_putF (i := 0) (j := 0) (ty := .object "MoonRooms$Row") dX7_init_14 jcl_X7 nfX7_14 (by decide) rfl rfl (by decide +kernel) rfl rfl (Nat.le_of_ble_eq_true rfl) rfl ?_
  exact N_ret dX7_init_17 (Nat.le_of_ble_eq_true rfl) (Nat.le_of_ble_eq_true rfl) ⟨q1, r2, rfl⟩
theorem nc_2 : NC ad cA m2_init 2 4 104 2 [.null, .null, .int 0, .int 0] [] (fun h0 w => ∃ a x b y, w = [(h0, .inr (2, [.ref a, .ref b, .int 0, .int 0])), (a, .inr (3, [.ref x, .int 0])), (x, .inl (cA 0, 50, .inl (fun _ => 0))), (b, .inr (3, [.ref y, .int 0])), (y, .inl (cA 0, 50, .inl (fun _ => 0)))]) := by
  refine NC_of (L0 := fun h0 => [some (.ref h0)]) sm2_init rfl rfl (fun x hx => absurd hx List.not_mem_nil) (fun _ => Nat.le_of_ble_eq_true rfl) (fun _ => rfl) (fun h0 => ?_)
  refine N_aload_n dX2_init_0 rfl ?_
  refine N_obj dX2_init_1 nlX2_3 no_i no_c (Nat.le_of_ble_eq_true rfl) (Nat.le_of_ble_eq_true rfl) ?_
  refine N_aload_n dX2_init_4 rfl ?_
  refine N_new dX2_init_5 jcl_X3 ncX2_9 ni_X3 nn_X3 (fs := [.null, .int 0]) (fun j hj => by rcases (show j = 0 ∨ j = 1 by omega) with rfl | rfl <;> rfl) (Nat.le_of_ble_eq_true rfl) (Nat.le_of_ble_eq_true rfl) (fun q1 => ?_)
  refine N_dup dX2_init_8 rfl ?_
  refine N_bipush (v := nI 50) dX2_init_9 (by decide) ?_
  refine N_init (as := [.int (nI 50)]) dX2_init_11 nlX2_11 sm3_init rfl rfl im3_init (Nat.le_of_ble_eq_true rfl) rfl (Nat.le_of_ble_eq_true rfl) (nc_3 50 (Nat.le_of_ble_eq_true rfl)) (Nat.le_of_ble_eq_true rfl) (Nat.le_of_ble_eq_true rfl) (fun w hw => ?_)
  obtain ⟨r2, rfl⟩ := hw
  refine N_putF (i := 0) (j := 0) (ty := .object "MoonRooms$Row") dX2_init_14 jcl_X2 nfX2_14 (by decide) rfl rfl (by decide +kernel) rfl rfl (Nat.le_of_ble_eq_true rfl) rfl ?_
  refine N_aload_n dX2_init_17 rfl ?_
  refine N_new dX2_init_18 jcl_X3 ncX2_9 ni_X3 nn_X3 (fs := [.null, .int 0]) (fun j hj => by rcases (show j = 0 ∨ j = 1 by omega) with rfl | rfl <;> rfl) (Nat.le_of_ble_eq_true rfl) (Nat.le_of_ble_eq_true rfl) (fun q3 => ?_)
  refine N_dup dX2_init_21 rfl ?_
  refine N_bipush (v := nI 50) dX2_init_22 (by decide) ?_
  refine N_init (as := [.int (nI 50)]) dX2_init_24 nlX2_11 sm3_init rfl rfl im3_init (Nat.le_of_ble_eq_true rfl) rfl (Nat.le_of_ble_eq_true rfl) (nc_3 50 (Nat.le_of_ble_eq_true rfl)) (Nat.le_of_ble_eq_true rfl) (Nat.le_of_ble_eq_true rfl) (fun w hw => ?_)
  obtain ⟨r4, rfl⟩ := hw
  refine N_putF (i := 0) (j := 1) (ty := .object "MoonRooms$Row") dX2_init_27 jcl_X2 nfX2_20 (by decide) rfl rfl (by decide +kernel) rfl rfl (Nat.le_of_ble_eq_true rfl) rfl ?_
  exact N_ret dX2_init_30 (Nat.le_of_ble_eq_true rfl) (Nat.le_of_ble_eq_true rfl) ⟨q1, r2, q3, r4, rfl⟩
end NCT

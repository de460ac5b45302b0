/-! MOONROOMS: its constructor (wip/whole/gen/gen95.py) -/
theorem nlX8_3 : jWd (.methodLink RX8 3 Lib.objectInit) := jWd_t1 (i := 23) rfl rfl
theorem ncX8_9 : jWd (.classLink RX8 9 RX0) := jWd_t1 (i := 26) rfl rfl
theorem nlX8_11 : jWd (.methodLink RX8 11 m0_init.1) := jWd_t1 (i := 28) rfl rfl
theorem nfX8_12 : jWd (.fieldLink RX8 12 (TX8 0).1 (TX8 0).2.1 (TX8 0).2.2.1) := jWd_t1 (i := 216) rfl rfl
theorem nfX8_16 : jWd (.fieldLink RX8 16 (TX8 1).1 (TX8 1).2.1 (TX8 1).2.2.1) := jWd_t1 (i := 217) rfl rfl
theorem nfX8_19 : jWd (.fieldLink RX8 19 (TX8 2).1 (TX8 2).2.1 (TX8 2).2.2.1) := jWd_t1 (i := 218) rfl rfl
theorem ncX8_22 : jWd (.classLink RX8 22 RX2) := jWd_t1 (i := 141) rfl rfl
theorem nlX8_24 : jWd (.methodLinkNest RX8 24 m2_init.1 "MoonRooms") := jWd_t1 (i := 143) rfl rfl
theorem nfX8_25 : jWd (.fieldLink RX8 25 (TX8 3).1 (TX8 3).2.1 (TX8 3).2.2.1) := jWd_t1 (i := 219) rfl rfl
theorem ncX8_29 : jWd (.classLink RX8 29 RX5) := jWd_t1 (i := 163) rfl rfl
theorem nlX8_31 : jWd (.methodLinkNest RX8 31 m5_init.1 "MoonRooms") := jWd_t1 (i := 165) rfl rfl
theorem nfX8_32 : jWd (.fieldLink RX8 32 (TX8 4).1 (TX8 4).2.1 (TX8 4).2.2.1) := jWd_t1 (i := 220) rfl rfl
theorem ncX8_36 : jWd (.classLink RX8 36 RX7) := jWd_t1 (i := 185) rfl rfl
theorem nlX8_38 : jWd (.methodLinkNest RX8 38 m7_init.1 "MoonRooms") := jWd_t1 (i := 187) rfl rfl
theorem nfX8_39 : jWd (.fieldLink RX8 39 (TX8 5).1 (TX8 5).2.1 (TX8 5).2.2.1) := jWd_t1 (i := 221) rfl rfl
/-- the class's cells, in their order -/
def aC (x0 : Nat) (d1 d2 d3 : Nat → Nat) (l : List Nat) : Nat → Nat := fun p => if p = 0 then x0 else if p < 21 then d1 p else if p < 41 then d2 (p - 20) else if p < 61 then d3 (p - 40) else l.getD (p - 61) 0
def μC : JMu := fun p => if p = 1 then (fun k => if k = 2 then 1 else 0) else if p = 21 then (fun k => if k = 2 then 1 else 0) else if p = 41 then (fun k => if k = 2 then 1 else 0) else if p = 17 then (fun k => if k = 0 then 1 else 0) else if p = 37 then (fun k => if k = 0 then 1 else 0) else if p = 57 then (fun k => if k = 0 then 1 else 0) else fun _ => 0
theorem jW_app (ad : Nat → Nat) (cA : Nat → ClassId) (μ : JMu) (a b : List Nat) : jW ad cA μ (a ++ b) = jW ad cA μ a ++ jW ad cA μ b := by unfold jW; rw [List.map_append]
theorem hPl_mem {p : Nat} (h : p ∈ hPl) : p = 1 ∨ p = 2 ∨ p = 3 ∨ p = 4 ∨ p = 5 ∨ p = 6 ∨ p = 7 ∨ p = 8 ∨ p = 9 ∨ p = 10 ∨ p = 11 ∨ p = 12 ∨ p = 13 ∨ p = 14 ∨ p = 15 ∨ p = 16 ∨ p = 17 ∨ p = 18 ∨ p = 19 ∨ p = 20 := by simpa [hPl] using h
theorem cW_0 (cA : Nat → ClassId) (x0 : Nat) (d1 d2 d3 : Nat → Nat) (b61 b62 b63 b64 b65 b66 b67 b68 b69 b70 b71 b72 b73 b74 b75 b76 b77 b78 b79 b80 b81 b82 b83 b84 b85 : Nat) : jW (aC x0 d1 d2 d3 [b61, b62, b63, b64, b65, b66, b67, b68, b69, b70, b71, b72, b73, b74, b75, b76, b77, b78, b79, b80, b81, b82, b83, b84, b85]) cA μC hPl = jW d1 cA μH hPl := by
  unfold jW
  apply List.map_congr_left
  intro p hp
  have hf : (fun k : Nat => ((([some 3, some 4, some 5, some 6, some 7, some 8] : List (Option Nat))[k]?).getD none).map (aC x0 d1 d2 d3 [b61, b62, b63, b64, b65, b66, b67, b68, b69, b70, b71, b72, b73, b74, b75, b76, b77, b78, b79, b80, b81, b82, b83, b84, b85])) = fun k : Nat => ((([some 3, some 4, some 5, some 6, some 7, some 8] : List (Option Nat))[k]?).getD none).map d1 := by
    funext k
    rcases k with _ | _ | _ | _ | _ | _ | k <;> first | rfl | simp
  rcases hPl_mem hp with rfl | rfl | rfl | rfl | rfl | rfl | rfl | rfl | rfl | rfl | rfl | rfl | rfl | rfl | rfl | rfl | rfl | rfl | rfl | rfl
  · rfl
  · show (d1 2, (.inl (cA 1, 6, .inr (.inr (.inr (.inr (fun k => ((([some 3, some 4, some 5, some 6, some 7, some 8] : List (Option Nat))[k]?).getD none).map (aC x0 d1 d2 d3 [b61, b62, b63, b64, b65, b66, b67, b68, b69, b70, b71, b72, b73, b74, b75, b76, b77, b78, b79, b80, b81, b82, b83, b84, b85])))))) : va_E)) = _
    rw [hf]; rfl
  all_goals rfl
theorem cW_1 (cA : Nat → ClassId) (x0 : Nat) (d1 d2 d3 : Nat → Nat) (b61 b62 b63 b64 b65 b66 b67 b68 b69 b70 b71 b72 b73 b74 b75 b76 b77 b78 b79 b80 b81 b82 b83 b84 b85 : Nat) : jW (aC x0 d1 d2 d3 [b61, b62, b63, b64, b65, b66, b67, b68, b69, b70, b71, b72, b73, b74, b75, b76, b77, b78, b79, b80, b81, b82, b83, b84, b85]) cA μC (hPl.map (fun p => p + 20)) = jW d2 cA μH hPl := by
  unfold jW; rw [List.map_map]
  apply List.map_congr_left
  intro p hp
  have hf : (fun k : Nat => ((([some 23, some 24, some 25, some 26, some 27, some 28] : List (Option Nat))[k]?).getD none).map (aC x0 d1 d2 d3 [b61, b62, b63, b64, b65, b66, b67, b68, b69, b70, b71, b72, b73, b74, b75, b76, b77, b78, b79, b80, b81, b82, b83, b84, b85])) = fun k : Nat => ((([some 3, some 4, some 5, some 6, some 7, some 8] : List (Option Nat))[k]?).getD none).map d2 := by
    funext k
    rcases k with _ | _ | _ | _ | _ | _ | k <;> first | rfl | simp
  rcases hPl_mem hp with rfl | rfl | rfl | rfl | rfl | rfl | rfl | rfl | rfl | rfl | rfl | rfl | rfl | rfl | rfl | rfl | rfl | rfl | rfl | rfl
  · rfl
  · show (d2 2, (.inl (cA 1, 6, .inr (.inr (.inr (.inr (fun k => ((([some 23, some 24, some 25, some 26, some 27, some 28] : List (Option Nat))[k]?).getD none).map (aC x0 d1 d2 d3 [b61, b62, b63, b64, b65, b66, b67, b68, b69, b70, b71, b72, b73, b74, b75, b76, b77, b78, b79, b80, b81, b82, b83, b84, b85])))))) : va_E)) = _
    rw [hf]; rfl
  all_goals rfl
theorem cW_2 (cA : Nat → ClassId) (x0 : Nat) (d1 d2 d3 : Nat → Nat) (b61 b62 b63 b64 b65 b66 b67 b68 b69 b70 b71 b72 b73 b74 b75 b76 b77 b78 b79 b80 b81 b82 b83 b84 b85 : Nat) : jW (aC x0 d1 d2 d3 [b61, b62, b63, b64, b65, b66, b67, b68, b69, b70, b71, b72, b73, b74, b75, b76, b77, b78, b79, b80, b81, b82, b83, b84, b85]) cA μC (hPl.map (fun p => p + 40)) = jW d3 cA μH hPl := by
  unfold jW; rw [List.map_map]
  apply List.map_congr_left
  intro p hp
  have hf : (fun k : Nat => ((([some 43, some 44, some 45, some 46, some 47, some 48] : List (Option Nat))[k]?).getD none).map (aC x0 d1 d2 d3 [b61, b62, b63, b64, b65, b66, b67, b68, b69, b70, b71, b72, b73, b74, b75, b76, b77, b78, b79, b80, b81, b82, b83, b84, b85])) = fun k : Nat => ((([some 3, some 4, some 5, some 6, some 7, some 8] : List (Option Nat))[k]?).getD none).map d3 := by
    funext k
    rcases k with _ | _ | _ | _ | _ | _ | k <;> first | rfl | simp
  rcases hPl_mem hp with rfl | rfl | rfl | rfl | rfl | rfl | rfl | rfl | rfl | rfl | rfl | rfl | rfl | rfl | rfl | rfl | rfl | rfl | rfl | rfl
  · rfl
  · show (d3 2, (.inl (cA 1, 6, .inr (.inr (.inr (.inr (fun k => ((([some 43, some 44, some 45, some 46, some 47, some 48] : List (Option Nat))[k]?).getD none).map (aC x0 d1 d2 d3 [b61, b62, b63, b64, b65, b66, b67, b68, b69, b70, b71, b72, b73, b74, b75, b76, b77, b78, b79, b80, b81, b82, b83, b84, b85])))))) : va_E)) = _
    rw [hf]; rfl
  all_goals rfl
theorem cW_r (cA : Nat → ClassId) (x0 : Nat) (d1 d2 d3 : Nat → Nat) (b61 b62 b63 b64 b65 b66 b67 b68 b69 b70 b71 b72 b73 b74 b75 b76 b77 b78 b79 b80 b81 b82 b83 b84 b85 : Nat) : jW (aC x0 d1 d2 d3 [b61, b62, b63, b64, b65, b66, b67, b68, b69, b70, b71, b72, b73, b74, b75, b76, b77, b78, b79, b80, b81, b82, b83, b84, b85]) cA μC [61, 62, 63, 64, 65, 66, 67, 68, 69, 70, 71, 72, 73, 74, 75, 76, 77, 78, 79, 80, 81, 82, 83, 84, 85] = [(b61, .inr (2, [.ref b62, .ref b64, .int 0, .int 0])), (b62, .inr (3, [.ref b63, .int 0])), (b63, .inl (cA 0, 50, .inl (fun _ => 0))), (b64, .inr (3, [.ref b65, .int 0])), (b65, .inl (cA 0, 50, .inl (fun _ => 0))), (b66, .inr (5, [.ref b67, .int 0, .int 0, .int 0])), (b67, .inr (3, [.ref b68, .int 0])), (b68, .inl (cA 0, 40, .inl (fun _ => 0))), (b69, .inr (7, [.ref b70])), (b70, .inr (3, [.ref b71, .int 0])), (b71, .inl (cA 0, 6, .inl (fun _ => 0))), (b72, .inl (cA 2, 4, .inr (.inr (.inr (.inr (fun k => ((([some 73, some 76, some 79, some 82] : List (Option Nat))[k]?).getD none).map (aC x0 d1 d2 d3 [b61, b62, b63, b64, b65, b66, b67, b68, b69, b70, b71, b72, b73, b74, b75, b76, b77, b78, b79, b80, b81, b82, b83, b84, b85]))))))), (b73, .inr (4, [.ref b74, .int 0])), (b74, .inr (3, [.ref b75, .int 0])), (b75, .inl (cA 0, 40, .inl (fun _ => 0))), (b76, .inr (4, [.ref b77, .int 0])), (b77, .inr (3, [.ref b78, .int 0])), (b78, .inl (cA 0, 40, .inl (fun _ => 0))), (b79, .inr (4, [.ref b80, .int 0])), (b80, .inr (3, [.ref b81, .int 0])), (b81, .inl (cA 0, 40, .inl (fun _ => 0))), (b82, .inr (4, [.ref b83, .int 0])), (b83, .inr (3, [.ref b84, .int 0])), (b84, .inl (cA 0, 40, .inl (fun _ => 0))), (b85, .inl (cA 0, 6, .inl (fun _ => 0)))] := by
  unfold jW
  simp only [List.map_cons, List.map_nil]
  rfl
theorem cW_all (cA : Nat → ClassId) (x0 : Nat) (d1 d2 d3 : Nat → Nat) (b61 b62 b63 b64 b65 b66 b67 b68 b69 b70 b71 b72 b73 b74 b75 b76 b77 b78 b79 b80 b81 b82 b83 b84 b85 : Nat) : jW (aC x0 d1 d2 d3 [b61, b62, b63, b64, b65, b66, b67, b68, b69, b70, b71, b72, b73, b74, b75, b76, b77, b78, b79, b80, b81, b82, b83, b84, b85]) cA μC cPl = (x0, .inr (8, [.ref (d1 1), .ref (d2 1), .ref (d3 1), .ref b61, .ref b66, .ref b69, .ref b72, .ref b85, .int 0])) :: (jW d1 cA μH hPl ++ (jW d2 cA μH hPl ++ (jW d3 cA μH hPl ++ [(b61, .inr (2, [.ref b62, .ref b64, .int 0, .int 0])), (b62, .inr (3, [.ref b63, .int 0])), (b63, .inl (cA 0, 50, .inl (fun _ => 0))), (b64, .inr (3, [.ref b65, .int 0])), (b65, .inl (cA 0, 50, .inl (fun _ => 0))), (b66, .inr (5, [.ref b67, .int 0, .int 0, .int 0])), (b67, .inr (3, [.ref b68, .int 0])), (b68, .inl (cA 0, 40, .inl (fun _ => 0))), (b69, .inr (7, [.ref b70])), (b70, .inr (3, [.ref b71, .int 0])), (b71, .inl (cA 0, 6, .inl (fun _ => 0))), (b72, .inl (cA 2, 4, .inr (.inr (.inr (.inr (fun k => ((([some 73, some 76, some 79, some 82] : List (Option Nat))[k]?).getD none).map (aC x0 d1 d2 d3 [b61, b62, b63, b64, b65, b66, b67, b68, b69, b70, b71, b72, b73, b74, b75, b76, b77, b78, b79, b80, b81, b82, b83, b84, b85]))))))), (b73, .inr (4, [.ref b74, .int 0])), (b74, .inr (3, [.ref b75, .int 0])), (b75, .inl (cA 0, 40, .inl (fun _ => 0))), (b76, .inr (4, [.ref b77, .int 0])), (b77, .inr (3, [.ref b78, .int 0])), (b78, .inl (cA 0, 40, .inl (fun _ => 0))), (b79, .inr (4, [.ref b80, .int 0])), (b80, .inr (3, [.ref b81, .int 0])), (b81, .inl (cA 0, 40, .inl (fun _ => 0))), (b82, .inr (4, [.ref b83, .int 0])), (b83, .inr (3, [.ref b84, .int 0])), (b84, .inl (cA 0, 40, .inl (fun _ => 0))), (b85, .inl (cA 0, 6, .inl (fun _ => 0)))]))) := by
  rw [show cPl = [0] ++ (hPl ++ (hPl.map (fun p => p + 20) ++ (hPl.map (fun p => p + 40) ++ [61, 62, 63, 64, 65, 66, 67, 68, 69, 70, 71, 72, 73, 74, 75, 76, 77, 78, 79, 80, 81, 82, 83, 84, 85]))) from by decide, jW_app, jW_app, jW_app, jW_app]
  rw [cW_0, cW_1, cW_2, cW_r]
  rfl
section NCT
variable {ad : Nat → Nat} {cA : Nat → ClassId}
theorem nc_8 : NC ad cA m8_init 4 85 1336 8 [.null, .null, .null, .null, .null, .null, .null, .null, .int 0] [] (fun x0 w => ∃ ad' : Nat → Nat, ad' 0 = x0 ∧ w = jW ad' cA μC cPl) := by
  refine NC_of (L0 := fun x0 => [some (.ref x0), none]) sm8_init rfl rfl (fun x hx => absurd hx List.not_mem_nil) (fun _ => Nat.le_of_ble_eq_true rfl) (fun _ => rfl) (fun x0 => ?_)
  refine N_aload_n dX8_init_0 rfl ?_
  refine N_obj dX8_init_1 nlX8_3 no_i no_c (Nat.le_of_ble_eq_true rfl) (Nat.le_of_ble_eq_true rfl) ?_
  refine N_aload_n dX8_init_4 rfl ?_
  refine N_new dX8_init_5 jcl_X0 ncX8_9 ni_X0 nn_X0 (fs := [.int 0, .int 0, .int 0, .int 0, .null, .null, .null, .null, .null]) (fun j hj => by rcases (show j = 0 ∨ j = 1 ∨ j = 2 ∨ j = 3 ∨ j = 4 ∨ j = 5 ∨ j = 6 ∨ j = 7 ∨ j = 8 by omega) with rfl | rfl | rfl | rfl | rfl | rfl | rfl | rfl | rfl <;> rfl) (Nat.le_of_ble_eq_true rfl) (Nat.le_of_ble_eq_true rfl) (fun q1 => ?_)
  refine N_dup dX8_init_8 rfl ?_
  refine N_init (as := []) dX8_init_9 nlX8_11 sm0_init rfl rfl im0_init (Nat.le_of_ble_eq_true rfl) rfl (Nat.le_of_ble_eq_true rfl) nc_0 (Nat.le_of_ble_eq_true rfl) (Nat.le_of_ble_eq_true rfl) (fun w hw => ?_)
  obtain ⟨a2, a2h, rfl⟩ := hw
  refine N_putF (i := 0) (j := 0) (ty := .object "MoonRooms$House") dX8_init_12 jcl_X8 nfX8_12 (by decide) rfl rfl (by decide +kernel) rfl rfl (Nat.le_of_ble_eq_true rfl) rfl ?_
  refine N_ws (ws' := (x0, .inr (8, [.ref q1, .null, .null, .null, .null, .null, .null, .null, .int 0])) :: (jW a2 cA μH hPl)) rfl ?_
  refine N_aload_n dX8_init_15 rfl ?_
  refine N_new dX8_init_16 jcl_X0 ncX8_9 ni_X0 nn_X0 (fs := [.int 0, .int 0, .int 0, .int 0, .null, .null, .null, .null, .null]) (fun j hj => by rcases (show j = 0 ∨ j = 1 ∨ j = 2 ∨ j = 3 ∨ j = 4 ∨ j = 5 ∨ j = 6 ∨ j = 7 ∨ j = 8 by omega) with rfl | rfl | rfl | rfl | rfl | rfl | rfl | rfl | rfl <;> rfl) (Nat.le_of_ble_eq_true rfl) (Nat.le_of_ble_eq_true rfl) (fun q3 => ?_)
  refine N_dup dX8_init_19 rfl ?_
  refine N_init (as := []) dX8_init_20 nlX8_11 sm0_init rfl rfl im0_init (Nat.le_of_ble_eq_true rfl) rfl (Nat.le_of_ble_eq_true rfl) nc_0 (Nat.le_of_ble_eq_true rfl) (Nat.le_of_ble_eq_true rfl) (fun w hw => ?_)
  obtain ⟨a4, a4h, rfl⟩ := hw
  refine N_putF (i := 0) (j := 1) (ty := .object "MoonRooms$House") dX8_init_23 jcl_X8 nfX8_16 (by decide) rfl rfl (by decide +kernel) rfl rfl (Nat.le_of_ble_eq_true rfl) rfl ?_
  refine N_ws (ws' := (x0, .inr (8, [.ref q1, .ref q3, .null, .null, .null, .null, .null, .null, .int 0])) :: ((jW a2 cA μH hPl) ++ jW a4 cA μH hPl)) rfl ?_
  refine N_aload_n dX8_init_26 rfl ?_
  refine N_new dX8_init_27 jcl_X0 ncX8_9 ni_X0 nn_X0 (fs := [.int 0, .int 0, .int 0, .int 0, .null, .null, .null, .null, .null]) (fun j hj => by rcases (show j = 0 ∨ j = 1 ∨ j = 2 ∨ j = 3 ∨ j = 4 ∨ j = 5 ∨ j = 6 ∨ j = 7 ∨ j = 8 by omega) with rfl | rfl | rfl | rfl | rfl | rfl | rfl | rfl | rfl <;> rfl) (Nat.le_of_ble_eq_true rfl) (Nat.le_of_ble_eq_true rfl) (fun q5 => ?_)
  refine N_dup dX8_init_30 rfl ?_
  refine N_init (as := []) dX8_init_31 nlX8_11 sm0_init rfl rfl im0_init (Nat.le_of_ble_eq_true rfl) rfl (Nat.le_of_ble_eq_true rfl) nc_0 (Nat.le_of_ble_eq_true rfl) (Nat.le_of_ble_eq_true rfl) (fun w hw => ?_)
  obtain ⟨a6, a6h, rfl⟩ := hw
  refine N_putF (i := 0) (j := 2) (ty := .object "MoonRooms$House") dX8_init_34 jcl_X8 nfX8_19 (by decide) rfl rfl (by decide +kernel) rfl rfl (Nat.le_of_ble_eq_true rfl) rfl ?_
  refine N_ws (ws' := (x0, .inr (8, [.ref q1, .ref q3, .ref q5, .null, .null, .null, .null, .null, .int 0])) :: (((jW a2 cA μH hPl) ++ jW a4 cA μH hPl) ++ jW a6 cA μH hPl)) rfl ?_
  refine N_aload_n dX8_init_37 rfl ?_
  refine N_new dX8_init_38 jcl_X2 ncX8_22 ni_X2 nn_X2 (fs := [.null, .null, .int 0, .int 0]) (fun j hj => by rcases (show j = 0 ∨ j = 1 ∨ j = 2 ∨ j = 3 by omega) with rfl | rfl | rfl | rfl <;> rfl) (Nat.le_of_ble_eq_true rfl) (Nat.le_of_ble_eq_true rfl) (fun q7 => ?_)
  refine N_dup dX8_init_41 rfl ?_
  refine N_initN (as := []) dX8_init_42 nlX8_24 sm2_init rfl rfl im2_init (Nat.le_of_ble_eq_true rfl) rfl (Nat.le_of_ble_eq_true rfl) nc_2 (Nat.le_of_ble_eq_true rfl) (Nat.le_of_ble_eq_true rfl) (fun w hw => ?_)
  obtain ⟨r8, r9, r10, r11, rfl⟩ := hw
  refine N_putF (i := 0) (j := 3) (ty := .object "MoonRooms$Reader") dX8_init_45 jcl_X8 nfX8_25 (by decide) rfl rfl (by decide +kernel) rfl rfl (Nat.le_of_ble_eq_true rfl) rfl ?_
  refine N_ws (ws' := (x0, .inr (8, [.ref q1, .ref q3, .ref q5, .ref q7, .null, .null, .null, .null, .int 0])) :: ((((jW a2 cA μH hPl) ++ jW a4 cA μH hPl) ++ jW a6 cA μH hPl) ++ [(q7, .inr (2, [.ref r8, .ref r10, .int 0, .int 0])), (r8, .inr (3, [.ref r9, .int 0])), (r9, .inl (cA 0, 50, .inl (fun _ => 0))), (r10, .inr (3, [.ref r11, .int 0])), (r11, .inl (cA 0, 50, .inl (fun _ => 0)))])) rfl ?_
  refine N_aload_n dX8_init_48 rfl ?_
  refine N_new dX8_init_49 jcl_X5 ncX8_29 ni_X5 nn_X5 (fs := [.null, .int 0, .int 0, .int 0]) (fun j hj => by rcases (show j = 0 ∨ j = 1 ∨ j = 2 ∨ j = 3 by omega) with rfl | rfl | rfl | rfl <;> rfl) (Nat.le_of_ble_eq_true rfl) (Nat.le_of_ble_eq_true rfl) (fun q12 => ?_)
  refine N_dup dX8_init_52 rfl ?_
  refine N_initN (as := []) dX8_init_53 nlX8_31 sm5_init rfl rfl im5_init (Nat.le_of_ble_eq_true rfl) rfl (Nat.le_of_ble_eq_true rfl) nc_5 (Nat.le_of_ble_eq_true rfl) (Nat.le_of_ble_eq_true rfl) (fun w hw => ?_)
  obtain ⟨r13, r14, rfl⟩ := hw
  refine N_putF (i := 0) (j := 4) (ty := .object "MoonRooms$Speaker") dX8_init_56 jcl_X8 nfX8_32 (by decide) rfl rfl (by decide +kernel) rfl rfl (Nat.le_of_ble_eq_true rfl) rfl ?_
  refine N_ws (ws' := (x0, .inr (8, [.ref q1, .ref q3, .ref q5, .ref q7, .ref q12, .null, .null, .null, .int 0])) :: (((((jW a2 cA μH hPl) ++ jW a4 cA μH hPl) ++ jW a6 cA μH hPl) ++ [(q7, .inr (2, [.ref r8, .ref r10, .int 0, .int 0])), (r8, .inr (3, [.ref r9, .int 0])), (r9, .inl (cA 0, 50, .inl (fun _ => 0))), (r10, .inr (3, [.ref r11, .int 0])), (r11, .inl (cA 0, 50, .inl (fun _ => 0)))]) ++ [(q12, .inr (5, [.ref r13, .int 0, .int 0, .int 0])), (r13, .inr (3, [.ref r14, .int 0])), (r14, .inl (cA 0, 40, .inl (fun _ => 0)))])) rfl ?_
  refine N_aload_n dX8_init_59 rfl ?_
  refine N_new dX8_init_60 jcl_X7 ncX8_36 ni_X7 nn_X7 (fs := [.null]) (fun j hj => by rw [show j = 0 by omega]; rfl) (Nat.le_of_ble_eq_true rfl) (Nat.le_of_ble_eq_true rfl) (fun q15 => ?_)
  refine N_dup dX8_init_63 rfl ?_
  refine N_initN (as := []) dX8_init_64 nlX8_38 sm7_init rfl rfl im7_init (Nat.le_of_ble_eq_true rfl) rfl (Nat.le_of_ble_eq_true rfl) nc_7 (Nat.le_of_ble_eq_true rfl) (Nat.le_of_ble_eq_true rfl) (fun w hw => ?_)
  obtain ⟨r16, r17, rfl⟩ := hw
  refine N_putF (i := 0) (j := 5) (ty := .object "MoonRooms$Wishes") dX8_init_67 jcl_X8 nfX8_39 (by decide) rfl rfl (by decide +kernel) rfl rfl (Nat.le_of_ble_eq_true rfl) rfl ?_
  refine N_ws (ws' := (x0, .inr (8, [.ref q1, .ref q3, .ref q5, .ref q7, .ref q12, .ref q15, .null, .null, .int 0])) :: ((((((jW a2 cA μH hPl) ++ jW a4 cA μH hPl) ++ jW a6 cA μH hPl) ++ [(q7, .inr (2, [.ref r8, .ref r10, .int 0, .int 0])), (r8, .inr (3, [.ref r9, .int 0])), (r9, .inl (cA 0, 50, .inl (fun _ => 0))), (r10, .inr (3, [.ref r11, .int 0])), (r11, .inl (cA 0, 50, .inl (fun _ => 0)))]) ++ [(q12, .inr (5, [.ref r13, .int 0, .int 0, .int 0])), (r13, .inr (3, [.ref r14, .int 0])), (r14, .inl (cA 0, 40, .inl (fun _ => 0)))]) ++ [(q15, .inr (7, [.ref r16])), (r16, .inr (3, [.ref r17, .int 0])), (r17, .inl (cA 0, 6, .inl (fun _ => 0)))])) rfl ?_
  refine nc_8b (fun S E s0 r0 i0 s1 r1 i1 s2 r2 i2 s3 r3 i3 => ⟨(aC x0 a2 a4 a6 [q7, r8, r9, r10, r11, q12, r13, r14, q15, r16, r17, S, s0, r0, i0, s1, r1, i1, s2, r2, i2, s3, r3, i3, E]), rfl, ?_⟩)
  have hg : (va_up (va_up (va_up (va_up (fun _ => none) 0 (some s0)) 1 (some s1)) 2 (some s2)) 3 (some s3)) = fun k : Nat => ((([some 73, some 76, some 79, some 82] : List (Option Nat))[k]?).getD none).map (aC x0 a2 a4 a6 [q7, r8, r9, r10, r11, q12, r13, r14, q15, r16, r17, S, s0, r0, i0, s1, r1, i1, s2, r2, i2, s3, r3, i3, E]) := by
    funext k
    rcases k with _ | _ | _ | _ | k <;> first | rfl | simp [va_up]
  rw [hg, cW_all cA x0 a2 a4 a6 q7 r8 r9 r10 r11 q12 r13 r14 q15 r16 r17 S s0 r0 i0 s1 r1 i1 s2 r2 i2 s3 r3 i3 E, a2h, a4h, a6h]
  simp only [shB, List.append_assoc, List.cons_append, List.nil_append]
end NCT

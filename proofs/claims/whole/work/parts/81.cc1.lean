set_option maxRecDepth 20000 in
theorem c5_speak (a1 : Nat) (a2 : Int32) (a3 : Int32) (a4 : Int32) (μ : JMu) : ∀ b, f5_speak a1 a2 a3 a4 μ = some b → JC m5_speak 102 cPl [.ref 66, .ref a1, .int (a2), .int (a3), .int (a4)] μ (some (.int b.1), b.2) := by
  refine JC_of (emb := (fun b : Int32 × JMu => (some (.int b.1), b.2))) (L0 := [some (.ref 66), some (.ref a1), some (.int (a2)), some (.int (a3)), some (.int (a4))]) sm5_speak (Nat.le_of_ble_eq_true rfl) rfl ?_
  unfold f5_speak
  refine JF_chk (fun o_a1 => ?_)
  refine J_aload_n dX5_speak_0 rfl ?_
  refine J_getR dX5_speak_1 wX5_14 rfl jo_cPl_66 jr_66_0 ?_
  refine J_callV_v (M' := m3_empty) (as := []) dX5_speak_4 lX5_20 sm3_empty sm3_empty_w jo_cPl_67 hci_X3 (by decide) rfl (Nat.le_of_ble_eq_true rfl) (c3_empty _ _) (fun r3 => ?_)
  refine J_aload_n dX5_speak_7 rfl ?_
  refine J_aload_n dX5_speak_8 rfl ?_
  refine J_getI dX5_speak_9 wX5_23 rfl o_a1 ?_
  refine J_putI dX5_speak_12 wX5_29 rfl jo_cPl_66 ?_
  refine J_aload_n dX5_speak_15 rfl ?_
  refine J_aload_n dX5_speak_16 rfl ?_
  refine J_getI dX5_speak_17 wX5_30 rfl o_a1 ?_
  refine J_putI dX5_speak_20 wX5_33 rfl jo_cPl_66 ?_
  refine J_aload_n dX5_speak_23 rfl ?_
  refine J_iload_n dX5_speak_24 rfl ?_
  refine J_putI dX5_speak_25 wX5_34 rfl jo_cPl_66 ?_
  refine J_aload_n dX5_speak_28 rfl ?_
  refine J_aload_n dX5_speak_29 rfl ?_
  refine J_getI dX5_speak_30 wX5_29 rfl jo_cPl_66 ?_
  refine J_iload_n dX5_speak_33 rfl ?_
  refine J_iload dX5_speak_34 rfl ?_
  refine J_iconst dX5_speak_36 (v := (0 : Int32)) rfl ?_
  refine J_callV_w (M' := m5_say) (as := [_, _, _, _]) dX5_speak_37 lX5_37 sm5_say sm5_say_w jo_cPl_66 hci_X5 (by decide) rfl (Nat.le_of_ble_eq_true rfl) (c5_say _ _ _ _ _) (fun r4 => ?_)
  exact J_iret dX5_speak_40 rfl rfl
set_option maxRecDepth 20000 in
theorem c7_wishedBy_b4 (μ : JMu) (n : Nat) : ∀ (v1 : Int32) (v2 : Int32) (v3 : Int32), JF m7_wishedBy 1 cPl (fun b : Int32 => (some (.int b), μ)) 4 [some (.ref 69), some (.int (v1)), some (.int (v2)), some (.int (v3))] [] μ (f7_wishedBy_b4 n v1 v2 v3 μ) := by
  induction n with
  | zero => intros; exact JF_none
  | succ n ih =>
    intro v1 v2 v3
    rw [f7_wishedBy_b4]
    refine J_iload_n dX7_wishedBy_4 rfl ?_
    refine J_aload_n dX7_wishedBy_5 rfl ?_
    refine J_getR dX7_wishedBy_6 wX7_14 rfl jo_cPl_69 jr_69_0 ?_
    refine J_getI dX7_wishedBy_9 wX7_20 rfl jo_cPl_70 ?_
    refine J_icmp_ge dX7_wishedBy_12 (tgt := 40) (by decide) (fun c4 => ?_) (fun c4 => ?_)
    · refine J_iload_n dX7_wishedBy_40 rfl ?_
      exact J_iret dX7_wishedBy_41 rfl rfl
    · refine J_iload_n dX7_wishedBy_15 rfl ?_
      refine J_iload_n dX7_wishedBy_16 rfl ?_
      refine J_ishr dX7_wishedBy_17 ?_
      refine J_iconst dX7_wishedBy_18 (v := (1 : Int32)) rfl ?_
      refine J_iand dX7_wishedBy_19 ?_
      refine J_if_eq dX7_wishedBy_20 (tgt := 34) (by decide) (fun c5 => ?_) (fun c5 => ?_)
      · refine J_iinc dX7_wishedBy_34 rfl (c0 := (1 : Int32)) rfl (by decide) rfl ?_
        refine J_goto dX7_wishedBy_37 (tgt := 4) (by decide) ?_
        exact ih _ _ _
      · refine J_iload_n dX7_wishedBy_23 rfl ?_
        refine J_aload_n dX7_wishedBy_24 rfl ?_
        refine J_getR dX7_wishedBy_25 wX7_14 rfl jo_cPl_69 jr_69_0 ?_
        refine J_iload_n dX7_wishedBy_28 rfl ?_
        refine J_callV_i (M' := m3_get) (as := [_]) dX7_wishedBy_29 lX7_42 sm3_get sm3_get_w jo_cPl_70 hci_X3 (by decide) rfl (Nat.le_of_ble_eq_true rfl) (c3_get _ _ _) (fun r6 => ?_)
        refine J_ior dX7_wishedBy_32 ?_
        refine J_istore_n dX7_wishedBy_33  (by decide) rfl ?_
        refine J_iinc dX7_wishedBy_34 rfl (c0 := (1 : Int32)) rfl (by decide) rfl ?_
        refine J_goto dX7_wishedBy_37 (tgt := 4) (by decide) ?_
        exact ih _ _ _
set_option maxRecDepth 20000 in
theorem c7_wishedBy (a1 : Int32) (μ : JMu) : ∀ b, f7_wishedBy a1 μ = some b → JC m7_wishedBy 1 cPl [.ref 69, .int (a1)] μ (some (.int b), μ) := by
  refine JC_of (emb := (fun b : Int32 => (some (.int b), μ))) (L0 := [some (.ref 69), some (.int (a1)), none, none]) sm7_wishedBy (Nat.le_of_ble_eq_true rfl) rfl ?_
  unfold f7_wishedBy
  refine J_iconst dX7_wishedBy_0 (v := (0 : Int32)) rfl ?_
  refine J_istore_n dX7_wishedBy_1  (by decide) rfl ?_
  refine J_iconst dX7_wishedBy_2 (v := (0 : Int32)) rfl ?_
  refine J_istore_n dX7_wishedBy_3  (by decide) rfl ?_
  exact c7_wishedBy_b4 μ jN _ _ _
set_option maxRecDepth 20000 in
theorem c7_mostFrom_b20 (μ : JMu) (n : Nat) : ∀ (v1 : Int32) (v2 : Int32) (v3 : Int32) (v4 : Int32) (v5 : Int32), JF m7_mostFrom 2 cPl (fun b : Int32 => (some (.int b), μ)) 20 [some (.ref 69), some (.int (v1)), some (.int (v2)), some (.int (v3)), some (.int (v4)), some (.int (v5)), none] [] μ (f7_mostFrom_b20 n v1 v2 v3 v4 v5 μ) := by
  induction n with
  | zero => intros; exact JF_none
  | succ n ih =>
    intro v1 v2 v3 v4 v5
    rw [f7_mostFrom_b20]
    refine J_iload dX7_mostFrom_20 rfl ?_
    refine J_iconst dX7_mostFrom_22 (v := (1 : Int32)) rfl ?_
    refine J_iload_n dX7_mostFrom_23 rfl ?_
    refine J_ishl dX7_mostFrom_24 ?_
    refine J_icmp_ge dX7_mostFrom_25 (tgt := 68) (by decide) (fun c5 => ?_) (fun c5 => ?_)
    · refine J_iload dX7_mostFrom_68 rfl ?_
      exact J_iret dX7_mostFrom_70 rfl rfl
    · refine J_aload_n dX7_mostFrom_28 rfl ?_
      refine J_iload dX7_mostFrom_29 rfl ?_
      refine J_iload_n dX7_mostFrom_31 rfl ?_
      refine J_ishl dX7_mostFrom_32 ?_
      refine J_callV_i (M' := m7_wishedBy) (as := [_]) dX7_mostFrom_33 lX7_30 sm7_wishedBy sm7_wishedBy_w jo_cPl_69 hci_X7 (by decide) rfl (Nat.le_of_ble_eq_true rfl) (c7_wishedBy _ _) (fun r6 => ?_)
      refine J_iload_n dX7_mostFrom_36 rfl ?_
      refine J_iconst dX7_mostFrom_37 (v := (-1 : Int32)) rfl ?_
      refine J_ixor dX7_mostFrom_38 ?_
      refine J_iand dX7_mostFrom_39 ?_
      refine J_istore dX7_mostFrom_40  (by decide) rfl ?_
      refine J_iload dX7_mostFrom_42 rfl ?_
      refine J_iload_n dX7_mostFrom_44 rfl ?_
      refine J_iload dX7_mostFrom_45 rfl ?_
      refine J_callS_i (M' := mj6_bitCount_0f7a4) (as := [_]) dX7_mostFrom_47 lX7_34 smj6_bitCount_0f7a4 smj6_bitCount_0f7a4_w (by decide) rfl (Nat.le_of_ble_eq_true rfl) (cj6_bitCount_0f7a4 cPl _ _) (fun r7 => ?_)
      refine J_isub dX7_mostFrom_50 ?_
      refine J_iload dX7_mostFrom_51 rfl ?_
      refine J_callS_i (M' := mj6_bitCount_0f7a4) (as := [_]) dX7_mostFrom_53 lX7_34 smj6_bitCount_0f7a4 smj6_bitCount_0f7a4_w (by decide) rfl (Nat.le_of_ble_eq_true rfl) (cj6_bitCount_0f7a4 cPl _ _) (fun r8 => ?_)
      refine J_iadd dX7_mostFrom_56 ?_
      refine J_min dX7_mostFrom_57 lX7_39 wm_min_s wm_i wm_min_c (by decide) (Nat.le_of_ble_eq_true rfl) ?_
      refine J_istore dX7_mostFrom_60  (by decide) rfl ?_
      refine J_iinc dX7_mostFrom_62 rfl (c0 := (1 : Int32)) rfl (by decide) rfl ?_
      refine J_goto dX7_mostFrom_65 (tgt := 20) (by decide) ?_
      refine JF_drop [6] ?_
      exact ih _ _ _ _ _
set_option maxRecDepth 20000 in
theorem c7_mostFrom (a1 : Int32) (a2 : Int32) (μ : JMu) : ∀ b, f7_mostFrom a1 a2 μ = some b → JC m7_mostFrom 2 cPl [.ref 69, .int (a1), .int (a2)] μ (some (.int b), μ) := by
  refine JC_of (emb := (fun b : Int32 => (some (.int b), μ))) (L0 := [some (.ref 69), some (.int (a1)), some (.int (a2)), none, none, none, none]) sm7_mostFrom (Nat.le_of_ble_eq_true rfl) rfl ?_
  unfold f7_mostFrom
  refine J_iconst dX7_mostFrom_0 (v := (0 : Int32)) rfl ?_
  refine J_aload_n dX7_mostFrom_1 rfl ?_
  refine J_getR dX7_mostFrom_2 wX7_14 rfl jo_cPl_69 jr_69_0 ?_
  refine J_getI dX7_mostFrom_5 wX7_20 rfl jo_cPl_70 ?_
  refine J_iload_n dX7_mostFrom_8 rfl ?_
  refine J_isub dX7_mostFrom_9 ?_
  refine J_max dX7_mostFrom_10 lX7_24 wm_max_s wm_i wm_max_c (by decide) (Nat.le_of_ble_eq_true rfl) ?_
  refine J_istore_n dX7_mostFrom_13  (by decide) rfl ?_
  refine J_iload_n dX7_mostFrom_14 rfl ?_
  refine J_istore dX7_mostFrom_15  (by decide) rfl ?_
  refine J_iconst dX7_mostFrom_17 (v := (0 : Int32)) rfl ?_
  refine J_istore dX7_mostFrom_18  (by decide) rfl ?_
  exact c7_mostFrom_b20 μ jN _ _ _ _ _
set_option maxRecDepth 20000 in
theorem c7_firstRoom_b24 (μ : JMu) (n : Nat) : ∀ (v1 : Int32) (v2 : Int32) (v3 : Int32) (v4 : Int32) (v5 : Int32), JF m7_firstRoom 3 cPl (fun b : Int32 => (some (.int b), μ)) 24 [some (.ref 69), some (.int (v1)), some (.int (v2)), some (.int (v3)), some (.int (v4)), some (.int (v5))] [] μ (f7_firstRoom_b24 n v1 v2 v3 v4 v5 μ) := by
  induction n with
  | zero => intros; exact JF_none
  | succ n ih =>
    intro v1 v2 v3 v4 v5
    rw [f7_firstRoom_b24]
    refine J_iload dX7_firstRoom_24 rfl ?_
    refine J_bipush dX7_firstRoom_26 (v := (24 : Int32)) rfl ?_
    refine J_icmp_ge dX7_firstRoom_28 (tgt := 69) (by decide) (fun c7 => ?_) (fun c7 => ?_)
    · refine J_iconst dX7_firstRoom_69 (v := (-1 : Int32)) rfl ?_
      exact J_iret dX7_firstRoom_70 rfl rfl
    · refine J_iload dX7_firstRoom_31 rfl ?_
      refine J_iload dX7_firstRoom_33 rfl ?_
      refine J_ishr dX7_firstRoom_35 ?_
      refine J_iconst dX7_firstRoom_36 (v := (1 : Int32)) rfl ?_
      refine J_iand dX7_firstRoom_37 ?_
      refine J_if_eq dX7_firstRoom_38 (tgt := 63) (by decide) (fun c8 => ?_) (fun c8 => ?_)
      · refine J_iinc dX7_firstRoom_63 rfl (c0 := (1 : Int32)) rfl (by decide) rfl ?_
        refine J_goto dX7_firstRoom_66 (tgt := 24) (by decide) ?_
        exact ih _ _ _ _ _
      · refine J_iconst dX7_firstRoom_41 (v := (1 : Int32)) rfl ?_
        refine J_aload_n dX7_firstRoom_42 rfl ?_
        refine J_iload_n dX7_firstRoom_43 rfl ?_
        refine J_iconst dX7_firstRoom_44 (v := (1 : Int32)) rfl ?_
        refine J_iadd dX7_firstRoom_45 ?_
        refine J_iload_n dX7_firstRoom_46 rfl ?_
        refine J_iconst dX7_firstRoom_47 (v := (1 : Int32)) rfl ?_
        refine J_iload dX7_firstRoom_48 rfl ?_
        refine J_ishl dX7_firstRoom_50 ?_
        refine J_ior dX7_firstRoom_51 ?_
        refine J_callV_i (M' := m7_mostFrom) (as := [_, _]) dX7_firstRoom_52 lX7_48 sm7_mostFrom sm7_mostFrom_w jo_cPl_69 hci_X7 (by decide) rfl (Nat.le_of_ble_eq_true rfl) (c7_mostFrom _ _ _) (fun r9 => ?_)
        refine J_iadd dX7_firstRoom_55 ?_
        refine J_iload_n dX7_firstRoom_56 rfl ?_
        refine J_icmp_ne dX7_firstRoom_57 (tgt := 63) (by decide) (fun c10 => ?_) (fun c10 => ?_)
        · refine J_iload dX7_firstRoom_60 rfl ?_
          exact J_iret dX7_firstRoom_62 rfl rfl
        · refine J_iinc dX7_firstRoom_63 rfl (c0 := (1 : Int32)) rfl (by decide) rfl ?_
          refine J_goto dX7_firstRoom_66 (tgt := 24) (by decide) ?_
          exact ih _ _ _ _ _
set_option maxRecDepth 20000 in
theorem c7_firstRoom (a1 : Int32) (a2 : Int32) (μ : JMu) : ∀ b, f7_firstRoom a1 a2 μ = some b → JC m7_firstRoom 3 cPl [.ref 69, .int (a1), .int (a2)] μ (some (.int b), μ) := by
  refine JC_of (emb := (fun b : Int32 => (some (.int b), μ))) (L0 := [some (.ref 69), some (.int (a1)), some (.int (a2)), none, none, none]) sm7_firstRoom (Nat.le_of_ble_eq_true rfl) rfl ?_
  unfold f7_firstRoom
  refine J_aload_n dX7_firstRoom_0 rfl ?_
  refine J_iload_n dX7_firstRoom_1 rfl ?_
  refine J_iload_n dX7_firstRoom_2 rfl ?_
  refine J_callV_i (M' := m7_mostFrom) (as := [_, _]) dX7_firstRoom_3 lX7_48 sm7_mostFrom sm7_mostFrom_w jo_cPl_69 hci_X7 (by decide) rfl (Nat.le_of_ble_eq_true rfl) (c7_mostFrom _ _ _) (fun r11 => ?_)
  refine J_istore_n dX7_firstRoom_6  (by decide) rfl ?_
  refine J_aload_n dX7_firstRoom_7 rfl ?_
  refine J_getR dX7_firstRoom_8 wX7_14 rfl jo_cPl_69 jr_69_0 ?_
  refine J_iload_n dX7_firstRoom_11 rfl ?_
  refine J_callV_i (M' := m3_get) (as := [_]) dX7_firstRoom_12 lX7_42 sm3_get sm3_get_w jo_cPl_70 hci_X3 (by decide) rfl (Nat.le_of_ble_eq_true rfl) (c3_get _ _ _) (fun r12 => ?_)
  refine J_iload_n dX7_firstRoom_15 rfl ?_
  refine J_iconst dX7_firstRoom_16 (v := (-1 : Int32)) rfl ?_
  refine J_ixor dX7_firstRoom_17 ?_
  refine J_iand dX7_firstRoom_18 ?_
  refine J_istore dX7_firstRoom_19  (by decide) rfl ?_
  refine J_iconst dX7_firstRoom_21 (v := (0 : Int32)) rfl ?_
  refine J_istore dX7_firstRoom_22  (by decide) rfl ?_
  exact c7_firstRoom_b24 μ jN _ _ _ _ _
set_option maxRecDepth 20000 in
theorem c7_roomOf_b7 (μ : JMu) (n : Nat) : ∀ (v1 : Int32) (v2 : Int32) (v3 : Int32) (v4 : Int32), JF m7_roomOf 4 cPl (fun b : Int32 => (some (.int b), μ)) 7 [some (.ref 69), some (.int (v1)), some (.int (v2)), some (.int (v3)), some (.int (v4))] [] μ (f7_roomOf_b7 n v1 v2 v3 v4 μ) := by
  induction n with
  | zero => intros; exact JF_none
  | succ n ih =>
    intro v1 v2 v3 v4
    rw [f7_roomOf_b7]
    refine J_iload dX7_roomOf_7 rfl ?_
    refine J_iload_n dX7_roomOf_9 rfl ?_
    refine J_icmp_gt dX7_roomOf_10 (tgt := 49) (by decide) (fun c5 => ?_) (fun c5 => ?_)
    · refine J_iload_n dX7_roomOf_49 rfl ?_
      exact J_iret dX7_roomOf_50 rfl rfl
    · refine J_iload dX7_roomOf_13 rfl ?_
      refine J_aload_n dX7_roomOf_15 rfl ?_
      refine J_getR dX7_roomOf_16 wX7_14 rfl jo_cPl_69 jr_69_0 ?_
      refine J_getI dX7_roomOf_19 wX7_20 rfl jo_cPl_70 ?_
      refine J_icmp_ge dX7_roomOf_22 (tgt := 49) (by decide) (fun c6 => ?_) (fun c6 => ?_)
      · refine J_iload_n dX7_roomOf_49 rfl ?_
        exact J_iret dX7_roomOf_50 rfl rfl
      · refine J_aload_n dX7_roomOf_25 rfl ?_
        refine J_iload dX7_roomOf_26 rfl ?_
        refine J_iload_n dX7_roomOf_28 rfl ?_
        refine J_callV_i (M' := m7_firstRoom) (as := [_, _]) dX7_roomOf_29 lX7_45 sm7_firstRoom sm7_firstRoom_w jo_cPl_69 hci_X7 (by decide) rfl (Nat.le_of_ble_eq_true rfl) (c7_firstRoom _ _ _) (fun r7 => ?_)
        refine J_istore_n dX7_roomOf_32  (by decide) rfl ?_
        refine J_iload_n dX7_roomOf_33 rfl ?_
        refine J_if_lt dX7_roomOf_34 (tgt := 43) (by decide) (fun c8 => ?_) (fun c8 => ?_)
        · refine J_iinc dX7_roomOf_43 rfl (c0 := (1 : Int32)) rfl (by decide) rfl ?_
          refine J_goto dX7_roomOf_46 (tgt := 7) (by decide) ?_
          exact ih _ _ _ _
        · refine J_iload_n dX7_roomOf_37 rfl ?_
          refine J_iconst dX7_roomOf_38 (v := (1 : Int32)) rfl ?_
          refine J_iload_n dX7_roomOf_39 rfl ?_
          refine J_ishl dX7_roomOf_40 ?_
          refine J_ior dX7_roomOf_41 ?_
          refine J_istore_n dX7_roomOf_42  (by decide) rfl ?_
          refine J_iinc dX7_roomOf_43 rfl (c0 := (1 : Int32)) rfl (by decide) rfl ?_
          refine J_goto dX7_roomOf_46 (tgt := 7) (by decide) ?_
          exact ih _ _ _ _
set_option maxRecDepth 20000 in
theorem c7_roomOf (a1 : Int32) (μ : JMu) : ∀ b, f7_roomOf a1 μ = some b → JC m7_roomOf 4 cPl [.ref 69, .int (a1)] μ (some (.int b), μ) := by
  refine JC_of (emb := (fun b : Int32 => (some (.int b), μ))) (L0 := [some (.ref 69), some (.int (a1)), none, none, none]) sm7_roomOf (Nat.le_of_ble_eq_true rfl) rfl ?_
  unfold f7_roomOf
  refine J_iconst dX7_roomOf_0 (v := (0 : Int32)) rfl ?_
  refine J_istore_n dX7_roomOf_1  (by decide) rfl ?_
  refine J_iconst dX7_roomOf_2 (v := (-1 : Int32)) rfl ?_
  refine J_istore_n dX7_roomOf_3  (by decide) rfl ?_
  refine J_iconst dX7_roomOf_4 (v := (0 : Int32)) rfl ?_
  refine J_istore dX7_roomOf_5  (by decide) rfl ?_
  exact c7_roomOf_b7 μ jN _ _ _ _
set_option maxRecDepth 20000 in
theorem c8_isOutside (a1 : Int32) (a2 : Int32) (a3 : Int32) (μ : JMu) : ∀ b, f8_isOutside a1 a2 a3 = some b → JC m8_isOutside 0 cPl [.int (a1), .int (a2), .int (a3)] μ (some (.int b), μ) := by
  refine JC_of (emb := (fun b : Int32 => (some (.int b), μ))) (L0 := [some (.int (a1)), some (.int (a2)), some (.int (a3))]) sm8_isOutside (Nat.le_of_ble_eq_true rfl) rfl ?_
  unfold f8_isOutside
  refine J_iload_n dX8_isOutside_0 rfl ?_
  refine J_iload_n dX8_isOutside_1 rfl ?_
  refine J_icmp_lt dX8_isOutside_2 (tgt := 10) (by decide) (fun c3 => ?_) (fun c3 => ?_)
  · refine J_iconst dX8_isOutside_10 (v := (1 : Int32)) rfl ?_
    refine J_goto dX8_isOutside_11 (tgt := 15) (by decide) ?_
    exact J_zret dX8_isOutside_15 rfl (Or.inr rfl) rfl
  · refine J_iload_n dX8_isOutside_5 rfl ?_
    refine J_iload_n dX8_isOutside_6 rfl ?_
    refine J_icmp_le dX8_isOutside_7 (tgt := 14) (by decide) (fun c4 => ?_) (fun c4 => ?_)
    · refine J_iconst dX8_isOutside_14 (v := (0 : Int32)) rfl ?_
      exact J_zret dX8_isOutside_15 rfl (Or.inl rfl) rfl
    · refine J_iconst dX8_isOutside_10 (v := (1 : Int32)) rfl ?_
      refine J_goto dX8_isOutside_11 (tgt := 15) (by decide) ?_
      exact J_zret dX8_isOutside_15 rfl (Or.inr rfl) rfl
set_option maxRecDepth 20000 in
theorem c8_fail (a1 : Int32) (μ : JMu) : ∀ b, f8_fail a1 μ = some b → JC m8_fail 0 cPl [.ref 0, .int (a1)] μ (some (.int b.1), b.2) := by
  refine JC_of (emb := (fun b : Int32 × JMu => (some (.int b.1), b.2))) (L0 := [some (.ref 0), some (.int (a1)), none]) sm8_fail (Nat.le_of_ble_eq_true rfl) rfl ?_
  unfold f8_fail
  refine J_ldcw dX8_fail_0 kX8_273 ?_
  refine J_iload_n dX8_fail_3 rfl ?_
  refine J_isub dX8_fail_4 ?_
  refine J_istore_n dX8_fail_5  (by decide) rfl ?_
  refine J_iload_n dX8_fail_6 rfl ?_
  refine J_if_lt dX8_fail_7 (tgt := 29) (by decide) (fun c5 => ?_) (fun c5 => ?_)
  · refine J_iload_n dX8_fail_29 rfl ?_
    exact J_iret dX8_fail_30 rfl rfl
  · refine J_iload_n dX8_fail_10 rfl ?_
    refine J_aload_n dX8_fail_11 rfl ?_
    refine J_getR dX8_fail_12 wX8_49 rfl jo_cPl_0 jr_0_7 ?_
    refine J_alen dX8_fail_15 ji_cPl_85 jl_85 rfl ?_
    refine J_icmp_ge dX8_fail_16 (tgt := 29) (by decide) (fun c6 => ?_) (fun c6 => ?_)
    · refine J_iload_n dX8_fail_29 rfl ?_
      exact J_iret dX8_fail_30 rfl rfl
    · refine J_aload_n dX8_fail_19 rfl ?_
      refine J_getR dX8_fail_20 wX8_49 rfl jo_cPl_0 jr_0_7 ?_
      refine J_iload_n dX8_fail_23 rfl ?_
      refine J_dup2 dX8_fail_24 rfl rfl ?_
      refine JF_chk (fun c8 => ?_)
      refine J_iald dX8_fail_25 ji_cPl_85 jl_85 (jin_spec c8) rfl ?_
      refine J_iconst dX8_fail_26 (v := (1 : Int32)) rfl ?_
      refine J_iadd dX8_fail_27 ?_
      refine JF_chk (fun c7 => ?_)
      refine J_iast dX8_fail_28 ji_cPl_85 jl_85 (jin_spec c7) rfl ?_
      refine J_iload_n dX8_fail_29 rfl ?_
      exact J_iret dX8_fail_30 rfl rfl
set_option maxRecDepth 20000 in
theorem c8_ofCell (a1 : Int32) (a2 : Int32) (μ : JMu) : ∀ b, f8_ofCell a1 a2 μ = some b → JC m8_ofCell 4 cPl [.ref 0, .int (a1), .int (a2)] μ (some (.int b.1), b.2) := by
  refine JC_of (emb := (fun b : Int32 × JMu => (some (.int b.1), b.2))) (L0 := [some (.ref 0), some (.int (a1)), some (.int (a2))]) sm8_ofCell (Nat.le_of_ble_eq_true rfl) rfl ?_
  unfold f8_ofCell
  refine J_iload_n dX8_ofCell_0 rfl ?_
  refine J_iconst dX8_ofCell_1 (v := (0 : Int32)) rfl ?_
  refine J_bipush dX8_ofCell_2 (v := (23 : Int32)) rfl ?_
  refine J_callS_i (M' := m8_isOutside) (as := [_, _, _]) dX8_ofCell_4 lX8_54 sm8_isOutside sm8_isOutside_w (by decide) rfl (Nat.le_of_ble_eq_true rfl) (c8_isOutside _ _ _ _) (fun r13 => ?_)
  refine J_if_eq dX8_ofCell_7 (tgt := 17) (by decide) (fun c14 => ?_) (fun c14 => ?_)
  · refine J_iload_n dX8_ofCell_17 rfl ?_
    refine JF_ite (fun c15 => ?_) (fun c15 => ?_)
    · refine J_tabIn (0 : Int32) dX8_ofCell_18 (tgt := 48)  c15 (by decide) (by decide) rfl (by decide) ?_
      refine J_aload_n dX8_ofCell_48 rfl ?_
      refine J_getR dX8_ofCell_49 wX8_12 rfl jo_cPl_0 jr_0_0 ?_
      refine J_getI dX8_ofCell_52 wX8_63 rfl jo_cPl_1 ?_
      refine J_bipush dX8_ofCell_55 (v := (16 : Int32)) rfl ?_
      refine J_irem dX8_ofCell_57 (by decide) ?_
      refine J_callS_i (M' := m8_litBy) (as := [_]) dX8_ofCell_58 lX8_67 sm8_litBy sm8_litBy_w (by decide) rfl (Nat.le_of_ble_eq_true rfl) (c8_litBy _ _) (fun r16 => ?_)
      refine J_iload_n dX8_ofCell_61 rfl ?_
      refine J_ishr dX8_ofCell_62 ?_
      refine J_iconst dX8_ofCell_63 (v := (1 : Int32)) rfl ?_
      refine J_iand dX8_ofCell_64 ?_
      exact J_iret dX8_ofCell_65 rfl rfl
    · refine JF_ite (fun c17 => ?_) (fun c17 => ?_)
      · refine J_tabIn (1 : Int32) dX8_ofCell_18 (tgt := 66)  c17 (by decide) (by decide) rfl (by decide) ?_
        refine J_aload_n dX8_ofCell_66 rfl ?_
        refine J_getR dX8_ofCell_67 wX8_12 rfl jo_cPl_0 jr_0_0 ?_
        refine J_aload_n dX8_ofCell_70 rfl ?_
        refine J_getR dX8_ofCell_71 wX8_12 rfl jo_cPl_0 jr_0_0 ?_
        refine J_getI dX8_ofCell_74 wX8_63 rfl jo_cPl_1 ?_
        refine J_callV_w (M' := m0_seenIn) (as := [_]) dX8_ofCell_77 lX8_70 sm0_seenIn sm0_seenIn_w jo_cPl_1 hci_X0 (by decide) rfl (Nat.le_of_ble_eq_true rfl) (c0_seenIn _ _ _) (fun r18 => ?_)
        refine J_iload_n dX8_ofCell_80 rfl ?_
        refine J_ishr dX8_ofCell_81 ?_
        refine J_iconst dX8_ofCell_82 (v := (1 : Int32)) rfl ?_
        refine J_iand dX8_ofCell_83 ?_
        exact J_iret dX8_ofCell_84 rfl rfl
      · refine JF_ite (fun c19 => ?_) (fun c19 => ?_)
        · refine J_tabIn (2 : Int32) dX8_ofCell_18 (tgt := 85)  c19 (by decide) (by decide) rfl (by decide) ?_
          refine J_aload_n dX8_ofCell_85 rfl ?_
          refine J_getR dX8_ofCell_86 wX8_12 rfl jo_cPl_0 jr_0_0 ?_
          refine J_iconst dX8_ofCell_89 (v := (1 : Int32)) rfl ?_
          refine J_iload_n dX8_ofCell_90 rfl ?_
          refine J_ishl dX8_ofCell_91 ?_
          refine J_callV_w (M' := m0_rentTogether) (as := [_]) dX8_ofCell_92 lX8_73 sm0_rentTogether sm0_rentTogether_w jo_cPl_1 hci_X0 (by decide) rfl (Nat.le_of_ble_eq_true rfl) (c0_rentTogether _ _ _) (fun r20 => ?_)
          exact J_iret dX8_ofCell_95 rfl rfl
        · refine JF_ite (fun c21 => ?_) (fun c21 => ?_)
          · refine J_tabIn (3 : Int32) dX8_ofCell_18 (tgt := 96)  c21 (by decide) (by decide) rfl (by decide) ?_
            refine J_aload_n dX8_ofCell_96 rfl ?_
            refine J_getR dX8_ofCell_97 wX8_12 rfl jo_cPl_0 jr_0_0 ?_
            refine J_iconst dX8_ofCell_100 (v := (1 : Int32)) rfl ?_
            refine J_iload_n dX8_ofCell_101 rfl ?_
            refine J_ishl dX8_ofCell_102 ?_
            refine J_callV_i (M' := m0_holdersOf) (as := [_]) dX8_ofCell_103 lX8_76 sm0_holdersOf sm0_holdersOf_w jo_cPl_1 hci_X0 (by decide) rfl (Nat.le_of_ble_eq_true rfl) (c0_holdersOf _ _ _) (fun r22 => ?_)
            exact J_iret dX8_ofCell_106 rfl rfl
          · refine J_tabOut dX8_ofCell_18 (tgt := 107) (by have z0 := lv_neT c15 (k := (0 : Int32)) (a := 0) rfl; have z1 := lv_neT c17 (k := (1 : Int32)) (a := 1) rfl; have z2 := lv_neT c19 (k := (2 : Int32)) (a := 2) rfl; have z3 := lv_neT c21 (k := (3 : Int32)) (a := 3) rfl; omega) (by decide) ?_
            refine J_aload_n dX8_ofCell_107 rfl ?_
            refine J_ldc dX8_ofCell_108 kX8_58 ?_
            refine J_callV_w (M' := m8_fail) (as := [_]) dX8_ofCell_110 lX8_59 sm8_fail sm8_fail_w jo_cPl_0 hci_X8 (by decide) rfl (Nat.le_of_ble_eq_true rfl) (c8_fail _ _) (fun r23 => ?_)
            exact J_iret dX8_ofCell_113 rfl rfl
  · refine J_aload_n dX8_ofCell_10 rfl ?_
    refine J_ldc dX8_ofCell_11 kX8_58 ?_
    refine J_callV_w (M' := m8_fail) (as := [_]) dX8_ofCell_13 lX8_59 sm8_fail sm8_fail_w jo_cPl_0 hci_X8 (by decide) rfl (Nat.le_of_ble_eq_true rfl) (c8_fail _ _) (fun r24 => ?_)
    exact J_iret dX8_ofCell_16 rfl rfl
set_option maxRecDepth 20000 in
theorem c8_lit (a1 : Int32) (μ : JMu) : ∀ b, f8_lit a1 μ = some b → JC m8_lit 1 cPl [.ref 0, .int (a1)] μ (some (.int b.1), b.2) := by
  refine JC_of (emb := (fun b : Int32 × JMu => (some (.int b.1), b.2))) (L0 := [some (.ref 0), some (.int (a1))]) sm8_lit (Nat.le_of_ble_eq_true rfl) rfl ?_
  unfold f8_lit
  refine J_iload_n dX8_lit_0 rfl ?_
  refine J_iconst dX8_lit_1 (v := (0 : Int32)) rfl ?_
  refine J_bipush dX8_lit_2 (v := (15 : Int32)) rfl ?_
  refine J_callS_i (M' := m8_isOutside) (as := [_, _, _]) dX8_lit_4 lX8_54 sm8_isOutside sm8_isOutside_w (by decide) rfl (Nat.le_of_ble_eq_true rfl) (c8_isOutside _ _ _ _) (fun r5 => ?_)
  refine J_if_eq dX8_lit_7 (tgt := 19) (by decide) (fun c6 => ?_) (fun c6 => ?_)
  · refine J_iload_n dX8_lit_19 rfl ?_
    refine J_callS_i (M' := m8_litBy) (as := [_]) dX8_lit_20 lX8_67 sm8_litBy sm8_litBy_w (by decide) rfl (Nat.le_of_ble_eq_true rfl) (c8_litBy _ _) (fun r7 => ?_)
    exact J_iret dX8_lit_23 rfl rfl
  · refine J_aload_n dX8_lit_10 rfl ?_
    refine J_ldc dX8_lit_11 kX8_58 ?_
    refine J_callV_w (M' := m8_fail) (as := [_]) dX8_lit_13 lX8_59 sm8_fail sm8_fail_w jo_cPl_0 hci_X8 (by decide) rfl (Nat.le_of_ble_eq_true rfl) (c8_fail _ _) (fun r8 => ?_)
    refine J_goto dX8_lit_16 (tgt := 23) (by decide) ?_
    exact J_iret dX8_lit_23 rfl rfl
set_option maxRecDepth 20000 in
theorem c8_weather (a1 : Int32) (μ : JMu) : ∀ b, f8_weather a1 μ = some b → JC m8_weather 1 cPl [.ref 0, .int (a1)] μ (some (.int b.1), b.2) := by
  refine JC_of (emb := (fun b : Int32 × JMu => (some (.int b.1), b.2))) (L0 := [some (.ref 0), some (.int (a1)), none]) sm8_weather (Nat.le_of_ble_eq_true rfl) rfl ?_
  unfold f8_weather
  refine J_iload_n dX8_weather_0 rfl ?_
  refine J_iconst dX8_weather_1 (v := (0 : Int32)) rfl ?_
  refine J_bipush dX8_weather_2 (v := (9 : Int32)) rfl ?_
  refine J_callS_i (M' := m8_isOutside) (as := [_, _, _]) dX8_weather_4 lX8_54 sm8_isOutside sm8_isOutside_w (by decide) rfl (Nat.le_of_ble_eq_true rfl) (c8_isOutside _ _ _ _) (fun r4 => ?_)
  refine J_if_eq dX8_weather_7 (tgt := 17) (by decide) (fun c5 => ?_) (fun c5 => ?_)
  · refine J_aload_n dX8_weather_17 rfl ?_
    refine J_getR dX8_weather_18 wX8_12 rfl jo_cPl_0 jr_0_0 ?_
    refine J_getI dX8_weather_21 wX8_79 rfl jo_cPl_1 ?_
    refine J_istore_n dX8_weather_24  (by decide) rfl ?_
    refine J_aload_n dX8_weather_25 rfl ?_
    refine J_getR dX8_weather_26 wX8_12 rfl jo_cPl_0 jr_0_0 ?_
    refine J_iload_n dX8_weather_29 rfl ?_
    refine J_putI dX8_weather_30 wX8_79 rfl jo_cPl_1 ?_
    refine J_iload_n dX8_weather_33 rfl ?_
    exact J_iret dX8_weather_34 rfl rfl
  · refine J_aload_n dX8_weather_10 rfl ?_
    refine J_ldc dX8_weather_11 kX8_58 ?_
    refine J_callV_w (M' := m8_fail) (as := [_]) dX8_weather_13 lX8_59 sm8_fail sm8_fail_w jo_cPl_0 hci_X8 (by decide) rfl (Nat.le_of_ble_eq_true rfl) (c8_fail _ _) (fun r6 => ?_)
    exact J_iret dX8_weather_16 rfl rfl
set_option maxRecDepth 20000 in
theorem c8_isNoKind (a1 : Int32) (μ : JMu) : ∀ b, f8_isNoKind a1 = some b → JC m8_isNoKind 0 cPl [.int (a1)] μ (some (.int b), μ) := by
  refine JC_of (emb := (fun b : Int32 => (some (.int b), μ))) (L0 := [some (.int (a1))]) sm8_isNoKind (Nat.le_of_ble_eq_true rfl) rfl ?_
  unfold f8_isNoKind
  refine J_iload_n dX8_isNoKind_0 rfl ?_
  refine J_if_lt dX8_isNoKind_1 (tgt := 15) (by decide) (fun c3 => ?_) (fun c3 => ?_)
  · refine J_iconst dX8_isNoKind_15 (v := (1 : Int32)) rfl ?_
    refine J_goto dX8_isNoKind_16 (tgt := 20) (by decide) ?_
    exact J_zret dX8_isNoKind_20 rfl (Or.inr rfl) rfl
  · refine J_iload_n dX8_isNoKind_4 rfl ?_
    refine J_bipush dX8_isNoKind_5 (v := (10 : Int32)) rfl ?_
    refine J_getsA dX8_isNoKind_7 gX8_123 ?_
    refine J_alenA dX8_isNoKind_10 ?_
    refine J_imul dX8_isNoKind_11 ?_
    refine J_icmp_lt dX8_isNoKind_12 (tgt := 19) (by decide) (fun c4 => ?_) (fun c4 => ?_)
    · refine J_iconst dX8_isNoKind_19 (v := (0 : Int32)) rfl ?_
      exact J_zret dX8_isNoKind_20 rfl (Or.inl rfl) rfl
    · refine J_iconst dX8_isNoKind_15 (v := (1 : Int32)) rfl ?_
      refine J_goto dX8_isNoKind_16 (tgt := 20) (by decide) ?_
      exact J_zret dX8_isNoKind_20 rfl (Or.inr rfl) rfl
set_option maxRecDepth 20000 in
theorem c8_tenant (a1 : Int32) (μ : JMu) : ∀ b, f8_tenant a1 μ = some b → JC m8_tenant 1 cPl [.ref 0, .int (a1)] μ (some (.int b.1), b.2) := by
  refine JC_of (emb := (fun b : Int32 × JMu => (some (.int b.1), b.2))) (L0 := [some (.ref 0), some (.int (a1)), none]) sm8_tenant (Nat.le_of_ble_eq_true rfl) rfl ?_
  unfold f8_tenant
  refine J_iload_n dX8_tenant_0 rfl ?_
  refine J_callS_i (M' := m8_isNoKind) (as := [_]) dX8_tenant_1 lX8_82 sm8_isNoKind sm8_isNoKind_w (by decide) rfl (Nat.le_of_ble_eq_true rfl) (c8_isNoKind _ _) (fun r7 => ?_)
  refine J_if_eq dX8_tenant_4 (tgt := 14) (by decide) (fun c8 => ?_) (fun c8 => ?_)
  · refine J_aload_n dX8_tenant_14 rfl ?_
    refine J_getR dX8_tenant_15 wX8_12 rfl jo_cPl_0 jr_0_0 ?_
    refine J_iload_n dX8_tenant_18 rfl ?_
    refine J_bipush dX8_tenant_19 (v := (10 : Int32)) rfl ?_
    refine J_idiv dX8_tenant_21 (by decide) ?_
    refine J_iload_n dX8_tenant_22 rfl ?_
    refine J_bipush dX8_tenant_23 (v := (10 : Int32)) rfl ?_
    refine J_irem dX8_tenant_25 (by decide) ?_
    refine J_callV_w (M' := m0_takeIn) (as := [_, _]) dX8_tenant_26 lX8_86 sm0_takeIn sm0_takeIn_w jo_cPl_1 hci_X0 (by decide) rfl (Nat.le_of_ble_eq_true rfl) (c0_takeIn _ _ _ _) (fun r9 => ?_)
    refine J_istore_n dX8_tenant_29  (by decide) rfl ?_
    refine J_iload_n dX8_tenant_30 rfl ?_
    refine J_if_ge dX8_tenant_31 (tgt := 43) (by decide) (fun c10 => ?_) (fun c10 => ?_)
    · refine J_iload_n dX8_tenant_43 rfl ?_
      exact J_iret dX8_tenant_44 rfl rfl
    · refine J_aload_n dX8_tenant_34 rfl ?_
      refine J_ldc dX8_tenant_35 kX8_90 ?_
      refine J_callV_w (M' := m8_fail) (as := [_]) dX8_tenant_37 lX8_59 sm8_fail sm8_fail_w jo_cPl_0 hci_X8 (by decide) rfl (Nat.le_of_ble_eq_true rfl) (c8_fail _ _) (fun r11 => ?_)
      refine J_goto dX8_tenant_40 (tgt := 44) (by decide) ?_
      exact J_iret dX8_tenant_44 rfl rfl
  · refine J_aload_n dX8_tenant_7 rfl ?_
    refine J_ldc dX8_tenant_8 kX8_58 ?_
    refine J_callV_w (M' := m8_fail) (as := [_]) dX8_tenant_10 lX8_59 sm8_fail sm8_fail_w jo_cPl_0 hci_X8 (by decide) rfl (Nat.le_of_ble_eq_true rfl) (c8_fail _ _) (fun r12 => ?_)
    exact J_iret dX8_tenant_13 rfl rfl
set_option maxRecDepth 20000 in
theorem c8_ofTenant (a1 : Int32) (a2 : Int32) (μ : JMu) : ∀ b, f8_ofTenant a1 a2 μ = some b → JC m8_ofTenant 4 cPl [.ref 0, .int (a1), .int (a2)] μ (some (.int b.1), b.2) := by
  refine JC_of (emb := (fun b : Int32 × JMu => (some (.int b.1), b.2))) (L0 := [some (.ref 0), some (.int (a1)), some (.int (a2)), none]) sm8_ofTenant (Nat.le_of_ble_eq_true rfl) rfl ?_
  unfold f8_ofTenant
  refine J_aload_n dX8_ofTenant_0 rfl ?_
  refine J_getR dX8_ofTenant_1 wX8_12 rfl jo_cPl_0 jr_0_0 ?_
  refine J_iload_n dX8_ofTenant_4 rfl ?_
  refine J_callV_q (M' := m0_find) (as := [_]) dX8_ofTenant_5 lX8_91 sm0_find sm0_find_w jo_cPl_1 hci_X0 (by decide) rfl (Nat.le_of_ble_eq_true rfl) (c0_find _ _ _) (fun r28 => ?_)
  refine J_astore_nQ dX8_ofTenant_8 (x := r28) (by decide) rfl ?_
  refine J_aload_nQ dX8_ofTenant_9 (x := r28) rfl ?_
  rcases r28 with _ | p29
  · refine J_ifnonnull0 dX8_ofTenant_10 ?_
    refine J_aload_n dX8_ofTenant_13 rfl ?_
    refine J_ldc dX8_ofTenant_14 kX8_58 ?_
    refine J_callV_w (M' := m8_fail) (as := [_]) dX8_ofTenant_16 lX8_59 sm8_fail sm8_fail_w jo_cPl_0 hci_X8 (by decide) rfl (Nat.le_of_ble_eq_true rfl) (c8_fail _ _) (fun r30 => ?_)
    exact J_iret dX8_ofTenant_19 rfl rfl
  · refine J_ifnonnull1 dX8_ofTenant_10 (tgt := 20) (by decide) ?_
    refine J_iload_n dX8_ofTenant_20 rfl ?_
    refine JF_ite (fun c31 => ?_) (fun c31 => ?_)
    · refine J_tabIn (0 : Int32) dX8_ofTenant_21 (tgt := 68)  c31 (by decide) (by decide) rfl (by decide) ?_
      refine J_aload_n dX8_ofTenant_68 rfl ?_
      refine JF_chk (fun o32 => ?_)
      refine J_getI dX8_ofTenant_69 wX8_95 rfl o32 ?_
      exact J_iret dX8_ofTenant_72 rfl rfl
    · refine JF_ite (fun c33 => ?_) (fun c33 => ?_)
      · refine J_tabIn (1 : Int32) dX8_ofTenant_21 (tgt := 73)  c33 (by decide) (by decide) rfl (by decide) ?_
        refine J_aload_n dX8_ofTenant_73 rfl ?_
        refine JF_chk (fun o34 => ?_)
        refine J_getI dX8_ofTenant_74 wX8_100 rfl o34 ?_
        exact J_iret dX8_ofTenant_77 rfl rfl
      · refine JF_ite (fun c35 => ?_) (fun c35 => ?_)
        · refine J_tabIn (2 : Int32) dX8_ofTenant_21 (tgt := 78)  c35 (by decide) (by decide) rfl (by decide) ?_
          refine J_aload_n dX8_ofTenant_78 rfl ?_
          refine JF_chk (fun o36 => ?_)
          refine J_getI dX8_ofTenant_79 wX8_103 rfl o36 ?_
          exact J_iret dX8_ofTenant_82 rfl rfl
        · refine JF_ite (fun c37 => ?_) (fun c37 => ?_)
          · refine J_tabIn (3 : Int32) dX8_ofTenant_21 (tgt := 83)  c37 (by decide) (by decide) rfl (by decide) ?_
            refine J_aload_n dX8_ofTenant_83 rfl ?_
            refine JF_chk (fun o38 => ?_)
            refine J_getI dX8_ofTenant_84 wX8_106 rfl o38 ?_
            refine J_ldc dX8_ofTenant_87 kX8_109 ?_
            refine J_iadd dX8_ofTenant_89 ?_
            exact J_iret dX8_ofTenant_90 rfl rfl
          · refine JF_ite (fun c39 => ?_) (fun c39 => ?_)
            · refine J_tabIn (4 : Int32) dX8_ofTenant_21 (tgt := 91)  c39 (by decide) (by decide) rfl (by decide) ?_
              refine J_aload_n dX8_ofTenant_91 rfl ?_
              refine JF_chk (fun o40 => ?_)
              refine J_getI dX8_ofTenant_92 wX8_110 rfl o40 ?_
              refine J_if_eq dX8_ofTenant_95 (tgt := 102) (by decide) (fun c41 => ?_) (fun c41 => ?_)
              · refine J_iconst dX8_ofTenant_102 (v := (0 : Int32)) rfl ?_
                exact J_iret dX8_ofTenant_103 rfl rfl
              · refine J_iconst dX8_ofTenant_98 (v := (1 : Int32)) rfl ?_
                refine J_goto dX8_ofTenant_99 (tgt := 103) (by decide) ?_
                exact J_iret dX8_ofTenant_103 rfl rfl
            · refine JF_ite (fun c42 => ?_) (fun c42 => ?_)
              · refine J_tabIn (5 : Int32) dX8_ofTenant_21 (tgt := 104)  c42 (by decide) (by decide) rfl (by decide) ?_
                refine J_aload_n dX8_ofTenant_104 rfl ?_
                refine J_aload_n dX8_ofTenant_105 rfl ?_
                refine J_getR dX8_ofTenant_106 wX8_12 rfl jo_cPl_0 jr_0_0 ?_
                refine J_getI dX8_ofTenant_109 wX8_63 rfl jo_cPl_1 ?_
                refine JF_chk (fun o43 => ?_)
                refine J_callV_i (M' := m6_looksIn) (as := [_]) dX8_ofTenant_112 lX8_114 sm6_looksIn sm6_looksIn_w o43 hci_X6 (by decide) rfl (Nat.le_of_ble_eq_true rfl) (c6_looksIn _ _ _) (fun r44 => ?_)
                refine J_if_eq dX8_ofTenant_115 (tgt := 122) (by decide) (fun c45 => ?_) (fun c45 => ?_)
                · refine J_iconst dX8_ofTenant_122 (v := (0 : Int32)) rfl ?_
                  exact J_iret dX8_ofTenant_123 rfl rfl
                · refine J_iconst dX8_ofTenant_118 (v := (1 : Int32)) rfl ?_
                  refine J_goto dX8_ofTenant_119 (tgt := 123) (by decide) ?_
                  exact J_iret dX8_ofTenant_123 rfl rfl
              · refine JF_ite (fun c46 => ?_) (fun c46 => ?_)
                · refine J_tabIn (6 : Int32) dX8_ofTenant_21 (tgt := 124)  c46 (by decide) (by decide) rfl (by decide) ?_
                  refine J_aload_n dX8_ofTenant_124 rfl ?_
                  refine JF_chk (fun o47 => ?_)
                  refine J_getI dX8_ofTenant_125 wX8_103 rfl o47 ?_
                  refine J_aload_n dX8_ofTenant_128 rfl ?_
                  refine J_getR dX8_ofTenant_129 wX8_12 rfl jo_cPl_0 jr_0_0 ?_
                  refine J_aload_n dX8_ofTenant_132 rfl ?_
                  refine J_getR dX8_ofTenant_133 wX8_12 rfl jo_cPl_0 jr_0_0 ?_
                  refine J_getI dX8_ofTenant_136 wX8_63 rfl jo_cPl_1 ?_
                  refine J_callV_w (M' := m0_seenIn) (as := [_]) dX8_ofTenant_139 lX8_70 sm0_seenIn sm0_seenIn_w jo_cPl_1 hci_X0 (by decide) rfl (Nat.le_of_ble_eq_true rfl) (c0_seenIn _ _ _) (fun r48 => ?_)
                  refine J_iand dX8_ofTenant_142 ?_
                  exact J_iret dX8_ofTenant_143 rfl rfl
                · refine JF_ite (fun c49 => ?_) (fun c49 => ?_)
                  · refine J_tabIn (7 : Int32) dX8_ofTenant_21 (tgt := 144)  c49 (by decide) (by decide) rfl (by decide) ?_
                    refine J_aload_n dX8_ofTenant_144 rfl ?_
                    refine J_aload_n dX8_ofTenant_145 rfl ?_
                    refine J_getR dX8_ofTenant_146 wX8_12 rfl jo_cPl_0 jr_0_0 ?_
                    refine J_aload_n dX8_ofTenant_149 rfl ?_
                    refine JF_chk (fun o50 => ?_)
                    refine J_getI dX8_ofTenant_150 wX8_103 rfl o50 ?_
                    refine J_callV_w (M' := m0_rentTogether) (as := [_]) dX8_ofTenant_153 lX8_73 sm0_rentTogether sm0_rentTogether_w jo_cPl_1 hci_X0 (by decide) rfl (Nat.le_of_ble_eq_true rfl) (c0_rentTogether _ _ _) (fun r51 => ?_)
                    refine J_aload_n dX8_ofTenant_156 rfl ?_
                    refine J_getR dX8_ofTenant_157 wX8_12 rfl jo_cPl_0 jr_0_0 ?_
                    refine J_iload_n dX8_ofTenant_160 rfl ?_
                    refine J_callV_i (M' := m0_sharersWith) (as := [_]) dX8_ofTenant_161 lX8_117 sm0_sharersWith sm0_sharersWith_w jo_cPl_1 hci_X0 (by decide) rfl (Nat.le_of_ble_eq_true rfl) (c0_sharersWith _ _ _) (fun r52 => ?_)
                    refine J_callV_i (M' := m6_owesBy) (as := [_, _]) dX8_ofTenant_164 lX8_120 sm6_owesBy sm6_owesBy_w o50 hci_X6 (by decide) rfl (Nat.le_of_ble_eq_true rfl) (c6_owesBy _ _ _ _) (fun r53 => ?_)
                    exact J_iret dX8_ofTenant_167 rfl rfl
                  · refine J_tabOut dX8_ofTenant_21 (tgt := 168) (by have z0 := lv_neT c31 (k := (0 : Int32)) (a := 0) rfl; have z1 := lv_neT c33 (k := (1 : Int32)) (a := 1) rfl; have z2 := lv_neT c35 (k := (2 : Int32)) (a := 2) rfl; have z3 := lv_neT c37 (k := (3 : Int32)) (a := 3) rfl; have z4 := lv_neT c39 (k := (4 : Int32)) (a := 4) rfl; have z5 := lv_neT c42 (k := (5 : Int32)) (a := 5) rfl; have z6 := lv_neT c46 (k := (6 : Int32)) (a := 6) rfl; have z7 := lv_neT c49 (k := (7 : Int32)) (a := 7) rfl; omega) (by decide) ?_
                    refine J_aload_n dX8_ofTenant_168 rfl ?_
                    refine J_ldc dX8_ofTenant_169 kX8_58 ?_
                    refine J_callV_w (M' := m8_fail) (as := [_]) dX8_ofTenant_171 lX8_59 sm8_fail sm8_fail_w jo_cPl_0 hci_X8 (by decide) rfl (Nat.le_of_ble_eq_true rfl) (c8_fail _ _) (fun r54 => ?_)
                    exact J_iret dX8_ofTenant_174 rfl rfl
set_option maxRecDepth 20000 in
theorem c8_become_b20 (μ : JMu) : JF m8_become 1 cPl (fun b : Int32 × JMu => (some (.int b.1), b.2)) 20 [some (.ref 0), none, none, none, none] [] μ (f8_become_b20  μ) := by
  unfold f8_become_b20
  refine J_aload_n dX8_become_20 rfl ?_
  refine J_ldc dX8_become_21 kX8_58 ?_
  refine J_callV_w (M' := m8_fail) (as := [_]) dX8_become_23 lX8_59 sm8_fail sm8_fail_w jo_cPl_0 hci_X8 (by decide) rfl (Nat.le_of_ble_eq_true rfl) (c8_fail _ _) (fun r7 => ?_)
  exact J_iret dX8_become_26 rfl rfl
set_option maxRecDepth 20000 in
theorem c8_become (a1 : Int32) (a2 : Int32) (μ : JMu) : ∀ b, f8_become a1 a2 μ = some b → JC m8_become 1 cPl [.ref 0, .int (a1), .int (a2)] μ (some (.int b.1), b.2) := by
  refine JC_of (emb := (fun b : Int32 × JMu => (some (.int b.1), b.2))) (L0 := [some (.ref 0), some (.int (a1)), some (.int (a2)), none, none]) sm8_become (Nat.le_of_ble_eq_true rfl) rfl ?_
  unfold f8_become
  refine J_aload_n dX8_become_0 rfl ?_
  refine J_getR dX8_become_1 wX8_12 rfl jo_cPl_0 jr_0_0 ?_
  refine J_iload_n dX8_become_4 rfl ?_
  refine J_callV_q (M' := m0_find) (as := [_]) dX8_become_5 lX8_91 sm0_find sm0_find_w jo_cPl_1 hci_X0 (by decide) rfl (Nat.le_of_ble_eq_true rfl) (c0_find _ _ _) (fun r8 => ?_)
  refine J_astore_nQ dX8_become_8 (x := r8) (by decide) rfl ?_
  refine J_aload_nQ dX8_become_9 (x := r8) rfl ?_
  rcases r8 with _ | p9
  · refine J_ifnull0 dX8_become_10 (tgt := 20) (by decide) ?_
    refine JF_drop [1, 2, 3] ?_
    exact c8_become_b20  _
  · refine J_ifnull1 dX8_become_10 ?_
    refine J_iload_n dX8_become_13 rfl ?_
    refine J_callS_i (M' := m8_isNoKind) (as := [_]) dX8_become_14 lX8_82 sm8_isNoKind sm8_isNoKind_w (by decide) rfl (Nat.le_of_ble_eq_true rfl) (c8_isNoKind _ _) (fun r10 => ?_)
    refine J_if_eq dX8_become_17 (tgt := 27) (by decide) (fun c11 => ?_) (fun c11 => ?_)
    · refine J_aload_n dX8_become_27 rfl ?_
      refine JF_chk (fun o12 => ?_)
      refine J_getI dX8_become_28 wX8_95 rfl o12 ?_
      refine J_istore dX8_become_31  (by decide) rfl ?_
      refine J_aload_n dX8_become_33 rfl ?_
      refine J_iload_n dX8_become_34 rfl ?_
      refine J_bipush dX8_become_35 (v := (10 : Int32)) rfl ?_
      refine J_idiv dX8_become_37 (by decide) ?_
      refine J_putI dX8_become_38 wX8_95 rfl o12 ?_
      refine J_aload_n dX8_become_41 rfl ?_
      refine J_iload_n dX8_become_42 rfl ?_
      refine J_bipush dX8_become_43 (v := (10 : Int32)) rfl ?_
      refine J_irem dX8_become_45 (by decide) ?_
      refine J_putI dX8_become_46 wX8_100 rfl o12 ?_
      refine J_iload dX8_become_49 rfl ?_
      exact J_iret dX8_become_51 rfl rfl
    · refine JF_drop [1, 2, 3] ?_
      exact c8_become_b20  _
set_option maxRecDepth 20000 in
theorem c8_as_b27 (μ : JMu) : JF m8_as 1 cPl (fun b : Int32 × JMu => (some (.int b.1), b.2)) 27 [some (.ref 0), none, none, none] [] μ (f8_as_b27  μ) := by
  unfold f8_as_b27
  refine J_aload_n dX8_as_27 rfl ?_
  refine J_ldc dX8_as_28 kX8_58 ?_
  refine J_callV_w (M' := m8_fail) (as := [_]) dX8_as_30 lX8_59 sm8_fail sm8_fail_w jo_cPl_0 hci_X8 (by decide) rfl (Nat.le_of_ble_eq_true rfl) (c8_fail _ _) (fun r10 => ?_)
  exact J_iret dX8_as_33 rfl rfl
set_option maxRecDepth 20000 in
theorem c8_as (a1 : Int32) (a2 : Int32) (μ : JMu) : ∀ b, f8_as a1 a2 μ = some b → JC m8_as 1 cPl [.ref 0, .int (a1), .int (a2)] μ (some (.int b.1), b.2) := by
  refine JC_of (emb := (fun b : Int32 × JMu => (some (.int b.1), b.2))) (L0 := [some (.ref 0), some (.int (a1)), some (.int (a2)), none]) sm8_as (Nat.le_of_ble_eq_true rfl) rfl ?_
  unfold f8_as
  refine J_aload_n dX8_as_0 rfl ?_
  refine J_getR dX8_as_1 wX8_12 rfl jo_cPl_0 jr_0_0 ?_
  refine J_iload_n dX8_as_4 rfl ?_
  refine J_callV_q (M' := m0_find) (as := [_]) dX8_as_5 lX8_91 sm0_find sm0_find_w jo_cPl_1 hci_X0 (by decide) rfl (Nat.le_of_ble_eq_true rfl) (c0_find _ _ _) (fun r11 => ?_)
  refine J_astore_nQ dX8_as_8 (x := r11) (by decide) rfl ?_
  refine J_aload_nQ dX8_as_9 (x := r11) rfl ?_
  rcases r11 with _ | p12
  · refine J_ifnull0 dX8_as_10 (tgt := 27) (by decide) ?_
    refine JF_drop [1, 2, 3] ?_
    exact c8_as_b27  _
  · refine J_ifnull1 dX8_as_10 ?_
    refine J_iload_n dX8_as_13 rfl ?_
    refine J_iconst dX8_as_14 (v := (0 : Int32)) rfl ?_
    refine J_getsA dX8_as_15 gX8_123 ?_
    refine J_alenA dX8_as_18 ?_
    refine J_iconst dX8_as_19 (v := (1 : Int32)) rfl ?_
    refine J_isub dX8_as_20 ?_
    refine J_callS_i (M' := m8_isOutside) (as := [_, _, _]) dX8_as_21 lX8_54 sm8_isOutside sm8_isOutside_w (by decide) rfl (Nat.le_of_ble_eq_true rfl) (c8_isOutside _ _ _ _) (fun r13 => ?_)
    refine J_if_eq dX8_as_24 (tgt := 34) (by decide) (fun c14 => ?_) (fun c14 => ?_)
    · refine J_aload_n dX8_as_34 rfl ?_
      refine JF_chk (fun o15 => ?_)
      refine J_getI dX8_as_35 wX8_95 rfl o15 ?_
      refine J_iload_n dX8_as_38 rfl ?_
      refine J_callS_i (M' := m8_isUnder) (as := [_, _]) dX8_as_39 lX8_126 sm8_isUnder sm8_isUnder_w (by decide) rfl (Nat.le_of_ble_eq_true rfl) (c8_isUnder _ _ _) (fun r16 => ?_)
      refine J_if_eq dX8_as_42 (tgt := 52) (by decide) (fun c17 => ?_) (fun c17 => ?_)
      · refine J_aload_n dX8_as_52 rfl ?_
        refine J_ldc dX8_as_53 kX8_130 ?_
        refine J_callV_w (M' := m8_fail) (as := [_]) dX8_as_55 lX8_59 sm8_fail sm8_fail_w jo_cPl_0 hci_X8 (by decide) rfl (Nat.le_of_ble_eq_true rfl) (c8_fail _ _) (fun r18 => ?_)
        exact J_iret dX8_as_58 rfl rfl
      · refine J_aload_n dX8_as_45 rfl ?_
        refine J_getI dX8_as_46 wX8_100 rfl o15 ?_
        refine J_goto dX8_as_49 (tgt := 58) (by decide) ?_
        exact J_iret dX8_as_58 rfl rfl
    · refine JF_drop [1, 2, 3] ?_
      exact c8_as_b27  _
set_option maxRecDepth 20000 in
theorem c8_isNoSet (a1 : Int32) (μ : JMu) : ∀ b, f8_isNoSet a1 = some b → JC m8_isNoSet 0 cPl [.int (a1)] μ (some (.int b), μ) := by
  refine JC_of (emb := (fun b : Int32 => (some (.int b), μ))) (L0 := [some (.int (a1))]) sm8_isNoSet (Nat.le_of_ble_eq_true rfl) rfl ?_
  unfold f8_isNoSet
  refine J_iload_n dX8_isNoSet_0 rfl ?_
  refine J_if_lt dX8_isNoSet_1 (tgt := 10) (by decide) (fun c3 => ?_) (fun c3 => ?_)
  · refine J_iconst dX8_isNoSet_10 (v := (1 : Int32)) rfl ?_
    refine J_goto dX8_isNoSet_11 (tgt := 15) (by decide) ?_
    exact J_zret dX8_isNoSet_15 rfl (Or.inr rfl) rfl
  · refine J_iload_n dX8_isNoSet_4 rfl ?_
    refine J_ldc dX8_isNoSet_5 kX8_234 ?_
    refine J_icmp_le dX8_isNoSet_7 (tgt := 14) (by decide) (fun c4 => ?_) (fun c4 => ?_)
    · refine J_iconst dX8_isNoSet_14 (v := (0 : Int32)) rfl ?_
      exact J_zret dX8_isNoSet_15 rfl (Or.inl rfl) rfl
    · refine J_iconst dX8_isNoSet_10 (v := (1 : Int32)) rfl ?_
      refine J_goto dX8_isNoSet_11 (tgt := 15) (by decide) ?_
      exact J_zret dX8_isNoSet_15 rfl (Or.inr rfl) rfl
set_option maxRecDepth 20000 in
theorem c8_lease_b20 (μ : JMu) : JF m8_lease 1 cPl (fun b : Int32 × JMu => (some (.int b.1), b.2)) 20 [some (.ref 0), none, none, none, none] [] μ (f8_lease_b20  μ) := by
  unfold f8_lease_b20
  refine J_aload_n dX8_lease_20 rfl ?_
  refine J_ldc dX8_lease_21 kX8_58 ?_
  refine J_callV_w (M' := m8_fail) (as := [_]) dX8_lease_23 lX8_59 sm8_fail sm8_fail_w jo_cPl_0 hci_X8 (by decide) rfl (Nat.le_of_ble_eq_true rfl) (c8_fail _ _) (fun r9 => ?_)
  exact J_iret dX8_lease_26 rfl rfl
set_option maxRecDepth 20000 in
theorem c8_lease (a1 : Int32) (a2 : Int32) (μ : JMu) : ∀ b, f8_lease a1 a2 μ = some b → JC m8_lease 1 cPl [.ref 0, .int (a1), .int (a2)] μ (some (.int b.1), b.2) := by
  refine JC_of (emb := (fun b : Int32 × JMu => (some (.int b.1), b.2))) (L0 := [some (.ref 0), some (.int (a1)), some (.int (a2)), none, none]) sm8_lease (Nat.le_of_ble_eq_true rfl) rfl ?_
  unfold f8_lease
  refine J_aload_n dX8_lease_0 rfl ?_
  refine J_getR dX8_lease_1 wX8_12 rfl jo_cPl_0 jr_0_0 ?_
  refine J_iload_n dX8_lease_4 rfl ?_
  refine J_callV_q (M' := m0_find) (as := [_]) dX8_lease_5 lX8_91 sm0_find sm0_find_w jo_cPl_1 hci_X0 (by decide) rfl (Nat.le_of_ble_eq_true rfl) (c0_find _ _ _) (fun r10 => ?_)
  refine J_astore_nQ dX8_lease_8 (x := r10) (by decide) rfl ?_
  refine J_aload_nQ dX8_lease_9 (x := r10) rfl ?_
  rcases r10 with _ | p11
  · refine J_ifnull0 dX8_lease_10 (tgt := 20) (by decide) ?_
    refine JF_drop [1, 2, 3] ?_
    exact c8_lease_b20  _
  · refine J_ifnull1 dX8_lease_10 ?_
    refine J_iload_n dX8_lease_13 rfl ?_
    refine J_callS_i (M' := m8_isNoSet) (as := [_]) dX8_lease_14 lX8_131 sm8_isNoSet sm8_isNoSet_w (by decide) rfl (Nat.le_of_ble_eq_true rfl) (c8_isNoSet _ _) (fun r12 => ?_)
    refine J_if_eq dX8_lease_17 (tgt := 27) (by decide) (fun c13 => ?_) (fun c13 => ?_)
    · refine J_aload_n dX8_lease_27 rfl ?_
      refine JF_chk (fun o14 => ?_)
      refine J_getI dX8_lease_28 wX8_110 rfl o14 ?_
      refine J_if_eq dX8_lease_31 (tgt := 41) (by decide) (fun c15 => ?_) (fun c15 => ?_)
      · refine J_aload_n dX8_lease_41 rfl ?_
        refine J_getI dX8_lease_42 wX8_103 rfl o14 ?_
        refine J_istore dX8_lease_45  (by decide) rfl ?_
        refine J_aload_n dX8_lease_47 rfl ?_
        refine J_iload_n dX8_lease_48 rfl ?_
        refine J_putI dX8_lease_49 wX8_103 rfl o14 ?_
        refine J_iload dX8_lease_52 rfl ?_
        exact J_iret dX8_lease_54 rfl rfl
      · refine J_aload_n dX8_lease_34 rfl ?_
        refine J_ldc dX8_lease_35 kX8_134 ?_
        refine J_callV_w (M' := m8_fail) (as := [_]) dX8_lease_37 lX8_59 sm8_fail sm8_fail_w jo_cPl_0 hci_X8 (by decide) rfl (Nat.le_of_ble_eq_true rfl) (c8_fail _ _) (fun r16 => ?_)
        exact J_iret dX8_lease_40 rfl rfl
    · refine JF_drop [1, 2, 3] ?_
      exact c8_lease_b20  _
set_option maxRecDepth 20000 in
theorem c8_purse_b26 (μ : JMu) : JF m8_purse 1 cPl (fun b : Int32 × JMu => (some (.int b.1), b.2)) 26 [some (.ref 0), none, none, none, none] [] μ (f8_purse_b26  μ) := by
  unfold f8_purse_b26
  refine J_aload_n dX8_purse_26 rfl ?_
  refine J_ldc dX8_purse_27 kX8_58 ?_
  refine J_callV_w (M' := m8_fail) (as := [_]) dX8_purse_29 lX8_59 sm8_fail sm8_fail_w jo_cPl_0 hci_X8 (by decide) rfl (Nat.le_of_ble_eq_true rfl) (c8_fail _ _) (fun r7 => ?_)
  exact J_iret dX8_purse_32 rfl rfl
set_option maxRecDepth 20000 in
theorem c8_purse (a1 : Int32) (a2 : Int32) (μ : JMu) : ∀ b, f8_purse a1 a2 μ = some b → JC m8_purse 1 cPl [.ref 0, .int (a1), .int (a2)] μ (some (.int b.1), b.2) := by
  refine JC_of (emb := (fun b : Int32 × JMu => (some (.int b.1), b.2))) (L0 := [some (.ref 0), some (.int (a1)), some (.int (a2)), none, none]) sm8_purse (Nat.le_of_ble_eq_true rfl) rfl ?_
  unfold f8_purse
  refine J_aload_n dX8_purse_0 rfl ?_
  refine J_getR dX8_purse_1 wX8_12 rfl jo_cPl_0 jr_0_0 ?_
  refine J_iload_n dX8_purse_4 rfl ?_
  refine J_callV_q (M' := m0_find) (as := [_]) dX8_purse_5 lX8_91 sm0_find sm0_find_w jo_cPl_1 hci_X0 (by decide) rfl (Nat.le_of_ble_eq_true rfl) (c0_find _ _ _) (fun r8 => ?_)
  refine J_astore_nQ dX8_purse_8 (x := r8) (by decide) rfl ?_
  refine J_aload_nQ dX8_purse_9 (x := r8) rfl ?_
  rcases r8 with _ | p9
  · refine J_ifnull0 dX8_purse_10 (tgt := 26) (by decide) ?_
    refine JF_drop [1, 2, 3] ?_
    exact c8_purse_b26  _
  · refine J_ifnull1 dX8_purse_10 ?_
    refine J_iload_n dX8_purse_13 rfl ?_
    refine J_sipush dX8_purse_14 (v := (-9999 : Int32)) rfl ?_
    refine J_sipush dX8_purse_17 (v := (9999 : Int32)) rfl ?_
    refine J_callS_i (M' := m8_isOutside) (as := [_, _, _]) dX8_purse_20 lX8_54 sm8_isOutside sm8_isOutside_w (by decide) rfl (Nat.le_of_ble_eq_true rfl) (c8_isOutside _ _ _ _) (fun r10 => ?_)
    refine J_if_eq dX8_purse_23 (tgt := 33) (by decide) (fun c11 => ?_) (fun c11 => ?_)
    · refine J_aload_n dX8_purse_33 rfl ?_
      refine JF_chk (fun o12 => ?_)
      refine J_getI dX8_purse_34 wX8_106 rfl o12 ?_
      refine J_istore dX8_purse_37  (by decide) rfl ?_
      refine J_aload_n dX8_purse_39 rfl ?_
      refine J_iload_n dX8_purse_40 rfl ?_
      refine J_putI dX8_purse_41 wX8_106 rfl o12 ?_
      refine J_iload dX8_purse_44 rfl ?_
      refine J_ldc dX8_purse_46 kX8_109 ?_
      refine J_iadd dX8_purse_48 ?_
      exact J_iret dX8_purse_49 rfl rfl
    · refine JF_drop [1, 2, 3] ?_
      exact c8_purse_b26  _
set_option maxRecDepth 20000 in
theorem c8_pardon (a1 : Int32) (μ : JMu) : ∀ b, f8_pardon a1 μ = some b → JC m8_pardon 2 cPl [.ref 0, .int (a1)] μ (some (.int b.1), b.2) := by
  refine JC_of (emb := (fun b : Int32 × JMu => (some (.int b.1), b.2))) (L0 := [some (.ref 0), some (.int (a1)), none]) sm8_pardon (Nat.le_of_ble_eq_true rfl) rfl ?_
  unfold f8_pardon
  refine J_aload_n dX8_pardon_0 rfl ?_
  refine J_getR dX8_pardon_1 wX8_12 rfl jo_cPl_0 jr_0_0 ?_
  refine J_iload_n dX8_pardon_4 rfl ?_
  refine J_callV_q (M' := m0_find) (as := [_]) dX8_pardon_5 lX8_91 sm0_find sm0_find_w jo_cPl_1 hci_X0 (by decide) rfl (Nat.le_of_ble_eq_true rfl) (c0_find _ _ _) (fun r8 => ?_)
  refine J_astore_nQ dX8_pardon_8 (x := r8) (by decide) rfl ?_
  refine J_aload_nQ dX8_pardon_9 (x := r8) rfl ?_
  rcases r8 with _ | p9
  · refine J_ifnonnull0 dX8_pardon_10 ?_
    refine J_aload_n dX8_pardon_13 rfl ?_
    refine J_ldc dX8_pardon_14 kX8_58 ?_
    refine J_callV_w (M' := m8_fail) (as := [_]) dX8_pardon_16 lX8_59 sm8_fail sm8_fail_w jo_cPl_0 hci_X8 (by decide) rfl (Nat.le_of_ble_eq_true rfl) (c8_fail _ _) (fun r10 => ?_)
    exact J_iret dX8_pardon_19 rfl rfl
  · refine J_ifnonnull1 dX8_pardon_10 (tgt := 20) (by decide) ?_
    refine J_aload_n dX8_pardon_20 rfl ?_
    refine JF_chk (fun o11 => ?_)
    refine J_getI dX8_pardon_21 wX8_110 rfl o11 ?_
    refine J_if_ne dX8_pardon_24 (tgt := 34) (by decide) (fun c12 => ?_) (fun c12 => ?_)
    · refine J_aload_n dX8_pardon_27 rfl ?_
      refine J_ldc dX8_pardon_28 kX8_134 ?_
      refine J_callV_w (M' := m8_fail) (as := [_]) dX8_pardon_30 lX8_59 sm8_fail sm8_fail_w jo_cPl_0 hci_X8 (by decide) rfl (Nat.le_of_ble_eq_true rfl) (c8_fail _ _) (fun r14 => ?_)
      exact J_iret dX8_pardon_33 rfl rfl
    · refine J_aload_n dX8_pardon_34 rfl ?_
      refine J_iconst dX8_pardon_35 (v := (0 : Int32)) rfl ?_
      refine J_putZ dX8_pardon_36 wX8_110 rfl o11 (Or.inl rfl) ?_
      refine J_aload_n dX8_pardon_39 rfl ?_
      refine J_iconst dX8_pardon_40 (v := (0 : Int32)) rfl ?_
      refine J_putI dX8_pardon_41 wX8_106 rfl o11 ?_
      refine J_aload_n dX8_pardon_44 rfl ?_
      refine J_getR dX8_pardon_45 wX8_12 rfl jo_cPl_0 jr_0_0 ?_
      refine J_callV_i (M' := m0_howManyEvicted) (as := []) dX8_pardon_48 lX8_135 sm0_howManyEvicted sm0_howManyEvicted_w jo_cPl_1 hci_X0 (by decide) rfl (Nat.le_of_ble_eq_true rfl) (c0_howManyEvicted _ _) (fun r13 => ?_)
      exact J_iret dX8_pardon_51 rfl rfl
set_option maxRecDepth 20000 in
theorem c8_feed_b44 (n : Nat) : ∀ (v1 : Int64) (v3 : Int32) (v4 : Int32) (μ : JMu), JF m8_feed 1 cPl (fun b : Int32 × JMu => (some (.int b.1), b.2)) 44 [some (.ref 0), some (.long (v1)), none, some (.int (v3)), some (.int (v4))] [] μ (f8_feed_b44 n v1 v3 v4 μ) := by
  induction n with
  | zero => intros; exact JF_none
  | succ n ih =>
    intro v1 v3 v4 μ
    rw [f8_feed_b44]
    refine J_iload dX8_feed_44 rfl ?_
    refine J_iload_n dX8_feed_46 rfl ?_
    refine J_icmp_ge dX8_feed_47 (tgt := 79) (by decide) (fun c8 => ?_) (fun c8 => ?_)
    · refine J_aload_n dX8_feed_79 rfl ?_
      refine J_getR dX8_feed_80 wX8_12 rfl jo_cPl_0 jr_0_0 ?_
      refine J_getR dX8_feed_83 wX8_139 rfl jo_cPl_1 jr_1_5 ?_
      refine J_getI dX8_feed_86 wX8_143 rfl jo_cPl_9 ?_
      exact J_iret dX8_feed_89 rfl rfl
    · refine J_aload_n dX8_feed_50 rfl ?_
      refine J_getR dX8_feed_51 wX8_12 rfl jo_cPl_0 jr_0_0 ?_
      refine J_getR dX8_feed_54 wX8_139 rfl jo_cPl_1 jr_1_5 ?_
      refine J_lload_n dX8_feed_57 rfl ?_
      refine J_bipush dX8_feed_58 (v := (8 : Int32)) rfl ?_
      refine J_iload dX8_feed_60 rfl ?_
      refine J_imul dX8_feed_62 ?_
      refine J_lshr dX8_feed_63 ?_
      refine J_ldc2 dX8_feed_64 kX8_148 ?_
      refine J_land dX8_feed_67 ?_
      refine J_l2i dX8_feed_68 ?_
      refine J_callV_w (M' := m3_add) (as := [_]) dX8_feed_69 lX8_150 sm3_add sm3_add_w jo_cPl_9 hci_X3 (by decide) rfl (Nat.le_of_ble_eq_true rfl) (c3_add _ _ _) (fun r9 => ?_)
      refine J_pop dX8_feed_72 rfl ?_
      refine J_iinc dX8_feed_73 rfl (c0 := (1 : Int32)) rfl (by decide) rfl ?_
      refine J_goto dX8_feed_76 (tgt := 44) (by decide) ?_
      exact ih _ _ _ _
set_option maxRecDepth 20000 in
theorem c8_feed (a1 : Int64) (a2 : Int32) (μ : JMu) : ∀ b, f8_feed a1 a2 μ = some b → JC m8_feed 1 cPl [.ref 0, .long (a1), .int (a2)] μ (some (.int b.1), b.2) := by
  refine JC_of (emb := (fun b : Int32 × JMu => (some (.int b.1), b.2))) (L0 := [some (.ref 0), some (.long (a1)), none, some (.int (a2)), none]) sm8_feed (Nat.le_of_ble_eq_true rfl) rfl ?_
  unfold f8_feed
  refine J_iload_n dX8_feed_0 rfl ?_
  refine J_iconst dX8_feed_1 (v := (1 : Int32)) rfl ?_
  refine J_bipush dX8_feed_2 (v := (8 : Int32)) rfl ?_
  refine J_callS_i (M' := m8_isOutside) (as := [_, _, _]) dX8_feed_4 lX8_54 sm8_isOutside sm8_isOutside_w (by decide) rfl (Nat.le_of_ble_eq_true rfl) (c8_isOutside _ _ _ _) (fun r10 => ?_)
  refine J_if_eq dX8_feed_7 (tgt := 17) (by decide) (fun c11 => ?_) (fun c11 => ?_)
  · refine J_aload_n dX8_feed_17 rfl ?_
    refine J_getR dX8_feed_18 wX8_12 rfl jo_cPl_0 jr_0_0 ?_
    refine J_getR dX8_feed_21 wX8_139 rfl jo_cPl_1 jr_1_5 ?_
    refine J_getI dX8_feed_24 wX8_143 rfl jo_cPl_9 ?_
    refine J_iload_n dX8_feed_27 rfl ?_
    refine J_iadd dX8_feed_28 ?_
    refine J_bipush dX8_feed_29 (v := (50 : Int32)) rfl ?_
    refine J_icmp_le dX8_feed_31 (tgt := 41) (by decide) (fun c12 => ?_) (fun c12 => ?_)
    · refine J_iconst dX8_feed_41 (v := (0 : Int32)) rfl ?_
      refine J_istore dX8_feed_42  (by decide) rfl ?_
      exact c8_feed_b44 jN _ _ _ _
    · refine J_aload_n dX8_feed_34 rfl ?_
      refine J_ldc dX8_feed_35 kX8_90 ?_
      refine J_callV_w (M' := m8_fail) (as := [_]) dX8_feed_37 lX8_59 sm8_fail sm8_fail_w jo_cPl_0 hci_X8 (by decide) rfl (Nat.le_of_ble_eq_true rfl) (c8_fail _ _) (fun r13 => ?_)
      exact J_iret dX8_feed_40 rfl rfl
  · refine J_aload_n dX8_feed_10 rfl ?_
    refine J_ldc dX8_feed_11 kX8_58 ?_
    refine J_callV_w (M' := m8_fail) (as := [_]) dX8_feed_13 lX8_59 sm8_fail sm8_fail_w jo_cPl_0 hci_X8 (by decide) rfl (Nat.le_of_ble_eq_true rfl) (c8_fail _ _) (fun r14 => ?_)
    exact J_iret dX8_feed_16 rfl rfl
set_option maxRecDepth 20000 in
theorem c8_isNoUse (a1 : Int32) (μ : JMu) : ∀ b, f8_isNoUse a1 = some b → JC m8_isNoUse 0 cPl [.int (a1)] μ (some (.int b), μ) := by
  refine JC_of (emb := (fun b : Int32 => (some (.int b), μ))) (L0 := [some (.int (a1))]) sm8_isNoUse (Nat.le_of_ble_eq_true rfl) rfl ?_
  unfold f8_isNoUse
  refine J_iload_n dX8_isNoUse_0 rfl ?_
  refine J_if_eq dX8_isNoUse_1 (tgt := 13) (by decide) (fun c3 => ?_) (fun c3 => ?_)
  · refine J_iconst dX8_isNoUse_13 (v := (0 : Int32)) rfl ?_
    exact J_zret dX8_isNoUse_14 rfl (Or.inl rfl) rfl
  · refine J_iload_n dX8_isNoUse_4 rfl ?_
    refine J_iconst dX8_isNoUse_5 (v := (1 : Int32)) rfl ?_
    refine J_icmp_eq dX8_isNoUse_6 (tgt := 13) (by decide) (fun c4 => ?_) (fun c4 => ?_)
    · refine J_iconst dX8_isNoUse_13 (v := (0 : Int32)) rfl ?_
      exact J_zret dX8_isNoUse_14 rfl (Or.inl rfl) rfl
    · refine J_iconst dX8_isNoUse_9 (v := (1 : Int32)) rfl ?_
      refine J_goto dX8_isNoUse_10 (tgt := 14) (by decide) ?_
      exact J_zret dX8_isNoUse_14 rfl (Or.inr rfl) rfl
set_option maxRecDepth 20000 in
theorem c8_text (a1 : Int32) (μ : JMu) : ∀ b, f8_text a1 μ = some b → JC m8_text 105 cPl [.ref 0, .int (a1)] μ (some (.int b.1), b.2) := by
  refine JC_of (emb := (fun b : Int32 × JMu => (some (.int b.1), b.2))) (L0 := [some (.ref 0), some (.int (a1)), none]) sm8_text (Nat.le_of_ble_eq_true rfl) rfl ?_
  unfold f8_text
  refine J_iload_n dX8_text_0 rfl ?_
  refine J_callS_i (M' := m8_isNoUse) (as := [_]) dX8_text_1 lX8_153 sm8_isNoUse sm8_isNoUse_w (by decide) rfl (Nat.le_of_ble_eq_true rfl) (c8_isNoUse _ _) (fun r10 => ?_)
  refine J_if_eq dX8_text_4 (tgt := 14) (by decide) (fun c11 => ?_) (fun c11 => ?_)
  · refine J_aload_n dX8_text_14 rfl ?_
    refine J_getR dX8_text_15 wX8_25 rfl jo_cPl_0 jr_0_3 ?_
    refine J_aload_n dX8_text_18 rfl ?_
    refine J_getR dX8_text_19 wX8_12 rfl jo_cPl_0 jr_0_0 ?_
    refine J_getR dX8_text_22 wX8_139 rfl jo_cPl_1 jr_1_5 ?_
    refine J_iload_n dX8_text_25 rfl ?_
    refine J_callV_w (M' := m2_read) (as := [_, _]) dX8_text_26 lX8_156 sm2_read sm2_read_w jo_cPl_61 hci_X2 (by decide) rfl (Nat.le_of_ble_eq_true rfl) (c2_read _ _ _) (fun r12 => ?_)
    refine J_istore_n dX8_text_29  (by decide) rfl ?_
    refine J_aload_n dX8_text_30 rfl ?_
    refine J_getR dX8_text_31 wX8_12 rfl jo_cPl_0 jr_0_0 ?_
    refine J_getR dX8_text_34 wX8_139 rfl jo_cPl_1 jr_1_5 ?_
    refine J_callV_v (M' := m3_empty) (as := []) dX8_text_37 lX8_160 sm3_empty sm3_empty_w jo_cPl_9 hci_X3 (by decide) rfl (Nat.le_of_ble_eq_true rfl) (c3_empty _ _) (fun r13 => ?_)
    refine J_iload_n dX8_text_40 rfl ?_
    refine J_if_lt dX8_text_41 (tgt := 49) (by decide) (fun c14 => ?_) (fun c14 => ?_)
    · refine J_aload_n dX8_text_49 rfl ?_
      refine J_getR dX8_text_50 wX8_12 rfl jo_cPl_0 jr_0_0 ?_
      refine J_iload_n dX8_text_53 rfl ?_
      refine J_callV_r (M' := m0_lawOf) (as := [_]) dX8_text_54 lX8_163 sm0_lawOf sm0_lawOf_w jo_cPl_1 hci_X0 (by decide) rfl (Nat.le_of_ble_eq_true rfl) (c0_lawOf _ _ _) (fun r15 => ?_)
      refine J_aload_n dX8_text_57 rfl ?_
      refine J_getR dX8_text_58 wX8_25 rfl jo_cPl_0 jr_0_3 ?_
      refine J_getR dX8_text_61 wX8_167 rfl jo_cPl_61 jr_61_1 ?_
      refine JF_chk (fun o16 => ?_)
      refine J_callV_v (M' := m1_copyFrom) (as := [_]) dX8_text_64 lX8_170 sm1_copyFrom sm1_copyFrom_w o16 hci_X1 (by decide) rfl (Nat.le_of_ble_eq_true rfl) (c1_copyFrom _ _ _) (fun r17 => ?_)
      refine J_iconst dX8_text_67 (v := (1 : Int32)) rfl ?_
      exact J_iret dX8_text_68 rfl rfl
    · refine J_bipush dX8_text_44 (v := (-10 : Int32)) rfl ?_
      refine J_iload_n dX8_text_46 rfl ?_
      refine J_isub dX8_text_47 ?_
      exact J_iret dX8_text_48 rfl rfl
  · refine J_aload_n dX8_text_7 rfl ?_
    refine J_ldc dX8_text_8 kX8_58 ?_
    refine J_callV_w (M' := m8_fail) (as := [_]) dX8_text_10 lX8_59 sm8_fail sm8_fail_w jo_cPl_0 hci_X8 (by decide) rfl (Nat.le_of_ble_eq_true rfl) (c8_fail _ _) (fun r18 => ?_)
    exact J_iret dX8_text_13 rfl rfl
set_option maxRecDepth 20000 in
theorem c8_law (a1 : Int32) (a2 : Int32) (a3 : Int32) (a4 : Int32) (μ : JMu) : ∀ b, f8_law a1 a2 a3 a4 μ = some b → JC m8_law 3 cPl [.ref 0, .int (a1), .int (a2), .int (a3), .int (a4)] μ (some (.int b.1), b.2) := by
  refine JC_of (emb := (fun b : Int32 × JMu => (some (.int b.1), b.2))) (L0 := [some (.ref 0), some (.int (a1)), some (.int (a2)), some (.int (a3)), some (.int (a4))]) sm8_law (Nat.le_of_ble_eq_true rfl) rfl ?_
  unfold f8_law
  refine J_iload_n dX8_law_0 rfl ?_
  refine J_callS_i (M' := m8_isNoUse) (as := [_]) dX8_law_1 lX8_153 sm8_isNoUse sm8_isNoUse_w (by decide) rfl (Nat.le_of_ble_eq_true rfl) (c8_isNoUse _ _) (fun r7 => ?_)
  refine J_if_eq dX8_law_4 (tgt := 14) (by decide) (fun c8 => ?_) (fun c8 => ?_)
  · refine J_aload_n dX8_law_14 rfl ?_
    refine J_getR dX8_law_15 wX8_12 rfl jo_cPl_0 jr_0_0 ?_
    refine J_iload_n dX8_law_18 rfl ?_
    refine J_callV_r (M' := m0_lawOf) (as := [_]) dX8_law_19 lX8_163 sm0_lawOf sm0_lawOf_w jo_cPl_1 hci_X0 (by decide) rfl (Nat.le_of_ble_eq_true rfl) (c0_lawOf _ _ _) (fun r9 => ?_)
    refine J_iload_n dX8_law_22 rfl ?_
    refine J_iload_n dX8_law_23 rfl ?_
    refine J_iload dX8_law_24 rfl ?_
    refine JF_chk (fun o10 => ?_)
    refine J_callV_w (M' := m1_rule) (as := [_, _, _]) dX8_law_26 lX8_176 sm1_rule sm1_rule_w o10 hci_X1 (by decide) rfl (Nat.le_of_ble_eq_true rfl) (c1_rule _ _ _ _ _) (fun r11 => ?_)
    exact J_iret dX8_law_29 rfl rfl
  · refine J_aload_n dX8_law_7 rfl ?_
    refine J_ldc dX8_law_8 kX8_58 ?_
    refine J_callV_w (M' := m8_fail) (as := [_]) dX8_law_10 lX8_59 sm8_fail sm8_fail_w jo_cPl_0 hci_X8 (by decide) rfl (Nat.le_of_ble_eq_true rfl) (c8_fail _ _) (fun r12 => ?_)
    exact J_iret dX8_law_13 rfl rfl
set_option maxRecDepth 20000 in
theorem c8_nights (a1 : Int32) (μ : JMu) : ∀ b, f8_nights a1 μ = some b → JC m8_nights 6 cPl [.ref 0, .int (a1)] μ (some (.int b.1), b.2) := by
  refine JC_of (emb := (fun b : Int32 × JMu => (some (.int b.1), b.2))) (L0 := [some (.ref 0), some (.int (a1))]) sm8_nights (Nat.le_of_ble_eq_true rfl) rfl ?_
  unfold f8_nights
  refine J_iload_n dX8_nights_0 rfl ?_
  refine J_iconst dX8_nights_1 (v := (1 : Int32)) rfl ?_
  refine J_bipush dX8_nights_2 (v := (100 : Int32)) rfl ?_
  refine J_callS_i (M' := m8_isOutside) (as := [_, _, _]) dX8_nights_4 lX8_54 sm8_isOutside sm8_isOutside_w (by decide) rfl (Nat.le_of_ble_eq_true rfl) (c8_isOutside _ _ _ _) (fun r8 => ?_)
  refine J_if_eq dX8_nights_7 (tgt := 17) (by decide) (fun c9 => ?_) (fun c9 => ?_)
  · refine J_aload_n dX8_nights_17 rfl ?_
    refine J_getR dX8_nights_18 wX8_12 rfl jo_cPl_0 jr_0_0 ?_
    refine J_getI dX8_nights_21 wX8_63 rfl jo_cPl_1 ?_
    refine J_iload_n dX8_nights_24 rfl ?_
    refine J_iadd dX8_nights_25 ?_
    refine J_sipush dX8_nights_26 (v := (9999 : Int32)) rfl ?_
    refine J_icmp_le dX8_nights_29 (tgt := 39) (by decide) (fun c10 => ?_) (fun c10 => ?_)
    · refine J_aload_n dX8_nights_39 rfl ?_
      refine J_getR dX8_nights_40 wX8_12 rfl jo_cPl_0 jr_0_0 ?_
      refine J_iload_n dX8_nights_43 rfl ?_
      refine J_callV_v (M' := m0_passNights) (as := [_]) dX8_nights_44 lX8_180 sm0_passNights sm0_passNights_w jo_cPl_1 hci_X0 (by decide) rfl (Nat.le_of_ble_eq_true rfl) (c0_passNights _ _ _) (fun r11 => ?_)
      refine J_aload_n dX8_nights_47 rfl ?_
      refine J_getR dX8_nights_48 wX8_12 rfl jo_cPl_0 jr_0_0 ?_
      refine J_callV_i (M' := m0_howManyEvicted) (as := []) dX8_nights_51 lX8_135 sm0_howManyEvicted sm0_howManyEvicted_w jo_cPl_1 hci_X0 (by decide) rfl (Nat.le_of_ble_eq_true rfl) (c0_howManyEvicted _ _) (fun r12 => ?_)
      exact J_iret dX8_nights_54 rfl rfl
    · refine J_aload_n dX8_nights_32 rfl ?_
      refine J_ldc dX8_nights_33 kX8_134 ?_
      refine J_callV_w (M' := m8_fail) (as := [_]) dX8_nights_35 lX8_59 sm8_fail sm8_fail_w jo_cPl_0 hci_X8 (by decide) rfl (Nat.le_of_ble_eq_true rfl) (c8_fail _ _) (fun r13 => ?_)
      exact J_iret dX8_nights_38 rfl rfl
  · refine J_aload_n dX8_nights_10 rfl ?_
    refine J_ldc dX8_nights_11 kX8_58 ?_
    refine J_callV_w (M' := m8_fail) (as := [_]) dX8_nights_13 lX8_59 sm8_fail sm8_fail_w jo_cPl_0 hci_X8 (by decide) rfl (Nat.le_of_ble_eq_true rfl) (c8_fail _ _) (fun r14 => ?_)
    exact J_iret dX8_nights_16 rfl rfl
set_option maxRecDepth 20000 in
theorem c8_loose_b41 (n : Nat) : ∀ (v1 : Int32) (v2 : Int32) (μ : JMu), JF m8_loose 6 cPl (fun b : Int32 × JMu => (some (.int b.1), b.2)) 41 [some (.ref 0), some (.int (v1)), some (.int (v2))] [] μ (f8_loose_b41 n v1 v2 μ) := by
  induction n with
  | zero => intros; exact JF_none
  | succ n ih =>
    intro v1 v2 μ
    rw [f8_loose_b41]
    refine J_iload_n dX8_loose_41 rfl ?_
    refine J_iload_n dX8_loose_42 rfl ?_
    refine J_icmp_ge dX8_loose_43 (tgt := 67) (by decide) (fun c10 => ?_) (fun c10 => ?_)
    · refine J_aload_n dX8_loose_67 rfl ?_
      refine J_getR dX8_loose_68 wX8_12 rfl jo_cPl_0 jr_0_0 ?_
      refine J_callV_i (M' := m0_howManyEvicted) (as := []) dX8_loose_71 lX8_135 sm0_howManyEvicted sm0_howManyEvicted_w jo_cPl_1 hci_X0 (by decide) rfl (Nat.le_of_ble_eq_true rfl) (c0_howManyEvicted _ _) (fun r11 => ?_)
      exact J_iret dX8_loose_74 rfl rfl
    · refine J_aload_n dX8_loose_46 rfl ?_
      refine J_getR dX8_loose_47 wX8_12 rfl jo_cPl_0 jr_0_0 ?_
      refine J_callV_v (M' := m0_drawNight) (as := []) dX8_loose_50 lX8_184 sm0_drawNight sm0_drawNight_w jo_cPl_1 hci_X0 (by decide) rfl (Nat.le_of_ble_eq_true rfl) (c0_drawNight _ _) (fun r12 => ?_)
      refine J_aload_n dX8_loose_53 rfl ?_
      refine J_getR dX8_loose_54 wX8_12 rfl jo_cPl_0 jr_0_0 ?_
      refine J_iconst dX8_loose_57 (v := (1 : Int32)) rfl ?_
      refine J_callV_v (M' := m0_passNights) (as := [_]) dX8_loose_58 lX8_180 sm0_passNights sm0_passNights_w jo_cPl_1 hci_X0 (by decide) rfl (Nat.le_of_ble_eq_true rfl) (c0_passNights _ _ _) (fun r13 => ?_)
      refine J_iinc dX8_loose_61 rfl (c0 := (1 : Int32)) rfl (by decide) rfl ?_
      refine J_goto dX8_loose_64 (tgt := 41) (by decide) ?_
      exact ih _ _ _
set_option maxRecDepth 20000 in
theorem c8_loose (a1 : Int32) (μ : JMu) : ∀ b, f8_loose a1 μ = some b → JC m8_loose 6 cPl [.ref 0, .int (a1)] μ (some (.int b.1), b.2) := by
  refine JC_of (emb := (fun b : Int32 × JMu => (some (.int b.1), b.2))) (L0 := [some (.ref 0), some (.int (a1)), none]) sm8_loose (Nat.le_of_ble_eq_true rfl) rfl ?_
  unfold f8_loose
  refine J_iload_n dX8_loose_0 rfl ?_
  refine J_iconst dX8_loose_1 (v := (1 : Int32)) rfl ?_
  refine J_bipush dX8_loose_2 (v := (40 : Int32)) rfl ?_
  refine J_callS_i (M' := m8_isOutside) (as := [_, _, _]) dX8_loose_4 lX8_54 sm8_isOutside sm8_isOutside_w (by decide) rfl (Nat.le_of_ble_eq_true rfl) (c8_isOutside _ _ _ _) (fun r14 => ?_)
  refine J_if_eq dX8_loose_7 (tgt := 17) (by decide) (fun c15 => ?_) (fun c15 => ?_)
  · refine J_aload_n dX8_loose_17 rfl ?_
    refine J_getR dX8_loose_18 wX8_12 rfl jo_cPl_0 jr_0_0 ?_
    refine J_getI dX8_loose_21 wX8_63 rfl jo_cPl_1 ?_
    refine J_iload_n dX8_loose_24 rfl ?_
    refine J_iadd dX8_loose_25 ?_
    refine J_sipush dX8_loose_26 (v := (9999 : Int32)) rfl ?_
    refine J_icmp_le dX8_loose_29 (tgt := 39) (by decide) (fun c16 => ?_) (fun c16 => ?_)
    · refine J_iconst dX8_loose_39 (v := (0 : Int32)) rfl ?_
      refine J_istore_n dX8_loose_40  (by decide) rfl ?_
      exact c8_loose_b41 jN _ _ _
    · refine J_aload_n dX8_loose_32 rfl ?_
      refine J_ldc dX8_loose_33 kX8_134 ?_
      refine J_callV_w (M' := m8_fail) (as := [_]) dX8_loose_35 lX8_59 sm8_fail sm8_fail_w jo_cPl_0 hci_X8 (by decide) rfl (Nat.le_of_ble_eq_true rfl) (c8_fail _ _) (fun r17 => ?_)
      exact J_iret dX8_loose_38 rfl rfl
  · refine J_aload_n dX8_loose_10 rfl ?_
    refine J_ldc dX8_loose_11 kX8_58 ?_
    refine J_callV_w (M' := m8_fail) (as := [_]) dX8_loose_13 lX8_59 sm8_fail sm8_fail_w jo_cPl_0 hci_X8 (by decide) rfl (Nat.le_of_ble_eq_true rfl) (c8_fail _ _) (fun r18 => ?_)
    exact J_iret dX8_loose_16 rfl rfl
set_option maxRecDepth 20000 in
theorem c8_then_b30 (μ : JMu) : JF m8_then 6 cPl (fun b : Int32 × JMu => (some (.int b.1), b.2)) 30 [some (.ref 0), none, none, none, none] [] μ (f8_then_b30  μ) := by
  unfold f8_then_b30
  refine J_aload_n dX8_then_30 rfl ?_
  refine J_ldc dX8_then_31 kX8_58 ?_
  refine J_callV_w (M' := m8_fail) (as := [_]) dX8_then_33 lX8_59 sm8_fail sm8_fail_w jo_cPl_0 hci_X8 (by decide) rfl (Nat.le_of_ble_eq_true rfl) (c8_fail _ _) (fun r16 => ?_)
  exact J_iret dX8_then_36 rfl rfl
set_option maxRecDepth 20000 in
theorem c8_then (a1 : Int32) (a2 : Int32) (a3 : Int32) (μ : JMu) : ∀ b, f8_then a1 a2 a3 μ = some b → JC m8_then 6 cPl [.ref 0, .int (a1), .int (a2), .int (a3)] μ (some (.int b.1), b.2) := by
  refine JC_of (emb := (fun b : Int32 × JMu => (some (.int b.1), b.2))) (L0 := [some (.ref 0), some (.int (a1)), some (.int (a2)), some (.int (a3)), none]) sm8_then (Nat.le_of_ble_eq_true rfl) rfl ?_
  unfold f8_then
  refine J_iload_n dX8_then_0 rfl ?_
  refine J_iconst dX8_then_1 (v := (0 : Int32)) rfl ?_
  refine J_bipush dX8_then_2 (v := (100 : Int32)) rfl ?_
  refine J_callS_i (M' := m8_isOutside) (as := [_, _, _]) dX8_then_4 lX8_54 sm8_isOutside sm8_isOutside_w (by decide) rfl (Nat.le_of_ble_eq_true rfl) (c8_isOutside _ _ _ _) (fun r17 => ?_)
  refine J_if_ne dX8_then_7 (tgt := 30) (by decide) (fun c18 => ?_) (fun c18 => ?_)
  · refine J_iload_n dX8_then_10 rfl ?_
    refine J_iconst dX8_then_11 (v := (0 : Int32)) rfl ?_
    refine J_iconst dX8_then_12 (v := (1 : Int32)) rfl ?_
    refine J_callS_i (M' := m8_isOutside) (as := [_, _, _]) dX8_then_13 lX8_54 sm8_isOutside sm8_isOutside_w (by decide) rfl (Nat.le_of_ble_eq_true rfl) (c8_isOutside _ _ _ _) (fun r19 => ?_)
    refine J_if_ne dX8_then_16 (tgt := 30) (by decide) (fun c20 => ?_) (fun c20 => ?_)
    · refine J_aload_n dX8_then_19 rfl ?_
      refine J_getR dX8_then_20 wX8_12 rfl jo_cPl_0 jr_0_0 ?_
      refine J_iload_n dX8_then_23 rfl ?_
      refine J_callV_q (M' := m0_find) (as := [_]) dX8_then_24 lX8_91 sm0_find sm0_find_w jo_cPl_1 hci_X0 (by decide) rfl (Nat.le_of_ble_eq_true rfl) (c0_find _ _ _) (fun r21 => ?_)
      rcases r21 with _ | p22
      · refine J_ifnonnull0 dX8_then_27 ?_
        refine JF_drop [1, 2, 3] ?_
        exact c8_then_b30  _
      · refine J_ifnonnull1 dX8_then_27 (tgt := 37) (by decide) ?_
        refine J_aload_n dX8_then_37 rfl ?_
        refine J_getR dX8_then_38 wX8_19 rfl jo_cPl_0 jr_0_2 ?_
        refine J_aload_n dX8_then_41 rfl ?_
        refine J_getR dX8_then_42 wX8_12 rfl jo_cPl_0 jr_0_0 ?_
        refine J_callV_v (M' := m0_copyFrom) (as := [_]) dX8_then_45 lX8_187 sm0_copyFrom sm0_copyFrom_w jo_cPl_41 hci_X0 (by decide) rfl (Nat.le_of_ble_eq_true rfl) (c0_copyFrom _ _ _) (fun r23 => ?_)
        refine J_aload_n dX8_then_48 rfl ?_
        refine J_getR dX8_then_49 wX8_19 rfl jo_cPl_0 jr_0_2 ?_
        refine J_iload_n dX8_then_52 rfl ?_
        refine J_callV_v (M' := m0_passNights) (as := [_]) dX8_then_53 lX8_180 sm0_passNights sm0_passNights_w jo_cPl_41 hci_X0 (by decide) rfl (Nat.le_of_ble_eq_true rfl) (c0_passNights _ _ _) (fun r24 => ?_)
        refine J_aload_n dX8_then_56 rfl ?_
        refine J_getR dX8_then_57 wX8_19 rfl jo_cPl_0 jr_0_2 ?_
        refine J_iload_n dX8_then_60 rfl ?_
        refine J_callV_q (M' := m0_find) (as := [_]) dX8_then_61 lX8_91 sm0_find sm0_find_w jo_cPl_41 hci_X0 (by decide) rfl (Nat.le_of_ble_eq_true rfl) (c0_find _ _ _) (fun r25 => ?_)
        refine J_astoreQ dX8_then_64 (x := r25) (by decide) rfl ?_
        refine J_aloadQ dX8_then_66 (x := r25) rfl ?_
        rcases r25 with _ | p26
        · refine J_ifnonnull0 dX8_then_68 ?_
          refine J_aload_n dX8_then_71 rfl ?_
          refine J_ldc dX8_then_72 kX8_58 ?_
          refine J_callV_w (M' := m8_fail) (as := [_]) dX8_then_74 lX8_59 sm8_fail sm8_fail_w jo_cPl_0 hci_X8 (by decide) rfl (Nat.le_of_ble_eq_true rfl) (c8_fail _ _) (fun r27 => ?_)
          exact J_iret dX8_then_77 rfl rfl
        · refine J_ifnonnull1 dX8_then_68 (tgt := 78) (by decide) ?_
          refine J_iload_n dX8_then_78 rfl ?_
          refine J_if_ne dX8_then_79 (tgt := 93) (by decide) (fun c28 => ?_) (fun c28 => ?_)
          · refine J_aload dX8_then_82 rfl ?_
            refine JF_chk (fun o30 => ?_)
            refine J_getI dX8_then_84 wX8_106 rfl o30 ?_
            refine J_ldc dX8_then_87 kX8_109 ?_
            refine J_iadd dX8_then_89 ?_
            refine J_goto dX8_then_90 (tgt := 98) (by decide) ?_
            exact J_iret dX8_then_98 rfl rfl
          · refine J_aload dX8_then_93 rfl ?_
            refine JF_chk (fun o29 => ?_)
            refine J_getI dX8_then_95 wX8_103 rfl o29 ?_
            exact J_iret dX8_then_98 rfl rfl
    · refine JF_drop [1, 2, 3] ?_
      exact c8_then_b30  _
  · refine JF_drop [1, 2, 3] ?_
    exact c8_then_b30  _
set_option maxRecDepth 20000 in
theorem c8_often_b23 (μ : JMu) : JF m8_often 4 cPl (fun b : Int32 × JMu => (some (.int b.1), b.2)) 23 [some (.ref 0), none, none, none, none, none, none] [] μ (f8_often_b23  μ) := by
  unfold f8_often_b23
  refine J_aload_n dX8_often_23 rfl ?_
  refine J_ldc dX8_often_24 kX8_58 ?_
  refine J_callV_w (M' := m8_fail) (as := [_]) dX8_often_26 lX8_59 sm8_fail sm8_fail_w jo_cPl_0 hci_X8 (by decide) rfl (Nat.le_of_ble_eq_true rfl) (c8_fail _ _) (fun r12 => ?_)
  exact J_iret dX8_often_29 rfl rfl
set_option maxRecDepth 20000 in
theorem c8_often_b36 (n : Nat) : ∀ (v2 : Int32) (v3 : Nat) (v4 : Int32) (v5 : Int32) (μ : JMu), JF m8_often 4 cPl (fun b : Int32 × JMu => (some (.int b.1), b.2)) 36 [some (.ref 0), none, some (.int (v2)), some (.ref v3), some (.int (v4)), some (.int (v5)), none] [] μ (f8_often_b36 n v2 v3 v4 v5 μ) := by
  induction n with
  | zero => intros; exact JF_none
  | succ n ih =>
    intro v2 v3 v4 v5 μ
    rw [f8_often_b36]
    refine J_iload dX8_often_36 rfl ?_
    refine J_iload_n dX8_often_38 rfl ?_
    refine J_icmp_ge dX8_often_39 (tgt := 89) (by decide) (fun c13 => ?_) (fun c13 => ?_)
    · refine J_iload dX8_often_89 rfl ?_
      exact J_iret dX8_often_91 rfl rfl
    · refine J_aload_n dX8_often_42 rfl ?_
      refine J_getR dX8_often_43 wX8_12 rfl jo_cPl_0 jr_0_0 ?_
      refine J_getI dX8_often_46 wX8_63 rfl jo_cPl_1 ?_
      refine J_iload dX8_often_49 rfl ?_
      refine J_iadd dX8_often_51 ?_
      refine J_istore dX8_often_52  (by decide) rfl ?_
      refine J_aload_n dX8_often_54 rfl ?_
      refine J_iload dX8_often_55 rfl ?_
      refine JF_chk (fun o14 => ?_)
      refine J_callV_i (M' := m6_looksIn) (as := [_]) dX8_often_57 lX8_114 sm6_looksIn sm6_looksIn_w o14 hci_X6 (by decide) rfl (Nat.le_of_ble_eq_true rfl) (c6_looksIn _ _ _) (fun r15 => ?_)
      refine J_if_eq dX8_often_60 (tgt := 83) (by decide) (fun c16 => ?_) (fun c16 => ?_)
      · refine J_iinc dX8_often_83 rfl (c0 := (1 : Int32)) rfl (by decide) rfl ?_
        refine J_goto dX8_often_86 (tgt := 36) (by decide) ?_
        refine JF_drop [6] ?_
        exact ih _ _ _ _ _
      · refine J_aload_n dX8_often_63 rfl ?_
        refine J_getI dX8_often_64 wX8_103 rfl o14 ?_
        refine J_aload_n dX8_often_67 rfl ?_
        refine J_getR dX8_often_68 wX8_12 rfl jo_cPl_0 jr_0_0 ?_
        refine J_iload dX8_often_71 rfl ?_
        refine J_callV_w (M' := m0_seenIn) (as := [_]) dX8_often_73 lX8_70 sm0_seenIn sm0_seenIn_w jo_cPl_1 hci_X0 (by decide) rfl (Nat.le_of_ble_eq_true rfl) (c0_seenIn _ _ _) (fun r17 => ?_)
        refine J_iand dX8_often_76 ?_
        refine J_if_eq dX8_often_77 (tgt := 83) (by decide) (fun c18 => ?_) (fun c18 => ?_)
        · refine J_iinc dX8_often_83 rfl (c0 := (1 : Int32)) rfl (by decide) rfl ?_
          refine J_goto dX8_often_86 (tgt := 36) (by decide) ?_
          refine JF_drop [6] ?_
          exact ih _ _ _ _ _
        · refine J_iinc dX8_often_80 rfl (c0 := (1 : Int32)) rfl (by decide) rfl ?_
          refine J_iinc dX8_often_83 rfl (c0 := (1 : Int32)) rfl (by decide) rfl ?_
          refine J_goto dX8_often_86 (tgt := 36) (by decide) ?_
          refine JF_drop [6] ?_
          exact ih _ _ _ _ _
set_option maxRecDepth 20000 in
theorem c8_often (a1 : Int32) (a2 : Int32) (μ : JMu) : ∀ b, f8_often a1 a2 μ = some b → JC m8_often 4 cPl [.ref 0, .int (a1), .int (a2)] μ (some (.int b.1), b.2) := by
  refine JC_of (emb := (fun b : Int32 × JMu => (some (.int b.1), b.2))) (L0 := [some (.ref 0), some (.int (a1)), some (.int (a2)), none, none, none, none]) sm8_often (Nat.le_of_ble_eq_true rfl) rfl ?_
  unfold f8_often
  refine J_aload_n dX8_often_0 rfl ?_
  refine J_getR dX8_often_1 wX8_12 rfl jo_cPl_0 jr_0_0 ?_
  refine J_iload_n dX8_often_4 rfl ?_
  refine J_callV_q (M' := m0_find) (as := [_]) dX8_often_5 lX8_91 sm0_find sm0_find_w jo_cPl_1 hci_X0 (by decide) rfl (Nat.le_of_ble_eq_true rfl) (c0_find _ _ _) (fun r19 => ?_)
  refine J_astore_nQ dX8_often_8 (x := r19) (by decide) rfl ?_
  refine J_aload_nQ dX8_often_9 (x := r19) rfl ?_
  rcases r19 with _ | p20
  · refine J_ifnull0 dX8_often_10 (tgt := 23) (by decide) ?_
    refine JF_drop [1, 2, 3] ?_
    exact c8_often_b23  _
  · refine J_ifnull1 dX8_often_10 ?_
    refine J_iload_n dX8_often_13 rfl ?_
    refine J_iconst dX8_often_14 (v := (1 : Int32)) rfl ?_
    refine J_bipush dX8_often_15 (v := (100 : Int32)) rfl ?_
    refine J_callS_i (M' := m8_isOutside) (as := [_, _, _]) dX8_often_17 lX8_54 sm8_isOutside sm8_isOutside_w (by decide) rfl (Nat.le_of_ble_eq_true rfl) (c8_isOutside _ _ _ _) (fun r21 => ?_)
    refine J_if_eq dX8_often_20 (tgt := 30) (by decide) (fun c22 => ?_) (fun c22 => ?_)
    · refine J_iconst dX8_often_30 (v := (0 : Int32)) rfl ?_
      refine J_istore dX8_often_31  (by decide) rfl ?_
      refine J_iconst dX8_often_33 (v := (0 : Int32)) rfl ?_
      refine J_istore dX8_often_34  (by decide) rfl ?_
      refine JF_drop [1] ?_
      exact c8_often_b36 jN _ _ _ _ _
    · refine JF_drop [1, 2, 3] ?_
      exact c8_often_b23  _
set_option maxRecDepth 20000 in
theorem c8_whole_b36 (n : Nat) : ∀ (v2 : Nat) (v3 : Int32) (μ : JMu), JF m8_whole 4 cPl (fun b : Int32 × JMu => (some (.int b.1), b.2)) 36 [some (.ref 0), none, some (.ref v2), some (.int (v3))] [] μ (f8_whole_b36 n v2 v3 μ) := by
  induction n with
  | zero => intros; exact JF_none
  | succ n ih =>
    intro v2 v3 μ
    rw [f8_whole_b36]
    refine J_iload_n dX8_whole_36 rfl ?_
    refine J_bipush dX8_whole_37 (v := (100 : Int32)) rfl ?_
    refine J_icmp_gt dX8_whole_39 (tgt := 76) (by decide) (fun c12 => ?_) (fun c12 => ?_)
    · refine J_aload_n dX8_whole_76 rfl ?_
      refine J_ldc dX8_whole_77 kX8_190 ?_
      refine J_callV_w (M' := m8_fail) (as := [_]) dX8_whole_79 lX8_59 sm8_fail sm8_fail_w jo_cPl_0 hci_X8 (by decide) rfl (Nat.le_of_ble_eq_true rfl) (c8_fail _ _) (fun r13 => ?_)
      exact J_iret dX8_whole_82 rfl rfl
    · refine J_aload_n dX8_whole_42 rfl ?_
      refine JF_chk (fun o14 => ?_)
      refine J_getI dX8_whole_43 wX8_103 rfl o14 ?_
      refine J_aload_n dX8_whole_46 rfl ?_
      refine J_getR dX8_whole_47 wX8_12 rfl jo_cPl_0 jr_0_0 ?_
      refine J_aload_n dX8_whole_50 rfl ?_
      refine J_getR dX8_whole_51 wX8_12 rfl jo_cPl_0 jr_0_0 ?_
      refine J_getI dX8_whole_54 wX8_63 rfl jo_cPl_1 ?_
      refine J_iload_n dX8_whole_57 rfl ?_
      refine J_iadd dX8_whole_58 ?_
      refine J_callV_w (M' := m0_seenIn) (as := [_]) dX8_whole_59 lX8_70 sm0_seenIn sm0_seenIn_w jo_cPl_1 hci_X0 (by decide) rfl (Nat.le_of_ble_eq_true rfl) (c0_seenIn _ _ _) (fun r15 => ?_)
      refine J_iconst dX8_whole_62 (v := (-1 : Int32)) rfl ?_
      refine J_ixor dX8_whole_63 ?_
      refine J_iand dX8_whole_64 ?_
      refine J_if_ne dX8_whole_65 (tgt := 70) (by decide) (fun c16 => ?_) (fun c16 => ?_)
      · refine J_iload_n dX8_whole_68 rfl ?_
        exact J_iret dX8_whole_69 rfl rfl
      · refine J_iinc dX8_whole_70 rfl (c0 := (1 : Int32)) rfl (by decide) rfl ?_
        refine J_goto dX8_whole_73 (tgt := 36) (by decide) ?_
        exact ih _ _ _
set_option maxRecDepth 20000 in
theorem c8_whole (a1 : Int32) (μ : JMu) : ∀ b, f8_whole a1 μ = some b → JC m8_whole 4 cPl [.ref 0, .int (a1)] μ (some (.int b.1), b.2) := by
  refine JC_of (emb := (fun b : Int32 × JMu => (some (.int b.1), b.2))) (L0 := [some (.ref 0), some (.int (a1)), none, none]) sm8_whole (Nat.le_of_ble_eq_true rfl) rfl ?_
  unfold f8_whole
  refine J_aload_n dX8_whole_0 rfl ?_
  refine J_getR dX8_whole_1 wX8_12 rfl jo_cPl_0 jr_0_0 ?_
  refine J_iload_n dX8_whole_4 rfl ?_
  refine J_callV_q (M' := m0_find) (as := [_]) dX8_whole_5 lX8_91 sm0_find sm0_find_w jo_cPl_1 hci_X0 (by decide) rfl (Nat.le_of_ble_eq_true rfl) (c0_find _ _ _) (fun r17 => ?_)
  refine J_astore_nQ dX8_whole_8 (x := r17) (by decide) rfl ?_
  refine J_aload_nQ dX8_whole_9 (x := r17) rfl ?_
  rcases r17 with _ | p18
  · refine J_ifnonnull0 dX8_whole_10 ?_
    refine J_aload_n dX8_whole_13 rfl ?_
    refine J_ldc dX8_whole_14 kX8_58 ?_
    refine J_callV_w (M' := m8_fail) (as := [_]) dX8_whole_16 lX8_59 sm8_fail sm8_fail_w jo_cPl_0 hci_X8 (by decide) rfl (Nat.le_of_ble_eq_true rfl) (c8_fail _ _) (fun r19 => ?_)
    exact J_iret dX8_whole_19 rfl rfl
  · refine J_ifnonnull1 dX8_whole_10 (tgt := 20) (by decide) ?_
    refine J_aload_n dX8_whole_20 rfl ?_
    refine JF_chk (fun o20 => ?_)
    refine J_getI dX8_whole_21 wX8_103 rfl o20 ?_
    refine J_if_ne dX8_whole_24 (tgt := 34) (by decide) (fun c21 => ?_) (fun c21 => ?_)
    · refine J_aload_n dX8_whole_27 rfl ?_
      refine J_ldc dX8_whole_28 kX8_134 ?_
      refine J_callV_w (M' := m8_fail) (as := [_]) dX8_whole_30 lX8_59 sm8_fail sm8_fail_w jo_cPl_0 hci_X8 (by decide) rfl (Nat.le_of_ble_eq_true rfl) (c8_fail _ _) (fun r22 => ?_)
      exact J_iret dX8_whole_33 rfl rfl
    · refine J_iconst dX8_whole_34 (v := (0 : Int32)) rfl ?_
      refine J_istore_n dX8_whole_35  (by decide) rfl ?_
      refine JF_drop [1] ?_
      exact c8_whole_b36 jN _ _ _
set_option maxRecDepth 20000 in
theorem c8_stays_b47 (n : Nat) : ∀ (v1 : Int32) (v3 : Int32) (μ : JMu), JF m8_stays 6 cPl (fun b : Int32 × JMu => (some (.int b.1), b.2)) 47 [some (.ref 0), some (.int (v1)), none, some (.int (v3)), none] [] μ (f8_stays_b47 n v1 v3 μ) := by
  induction n with
  | zero => intros; exact JF_none
  | succ n ih =>
    intro v1 v3 μ
    rw [f8_stays_b47]
    refine J_iload_n dX8_stays_47 rfl ?_
    refine J_bipush dX8_stays_48 (v := (100 : Int32)) rfl ?_
    refine J_icmp_gt dX8_stays_50 (tgt := 92) (by decide) (fun c15 => ?_) (fun c15 => ?_)
    · refine J_aload_n dX8_stays_92 rfl ?_
      refine J_ldc dX8_stays_93 kX8_190 ?_
      refine J_callV_w (M' := m8_fail) (as := [_]) dX8_stays_95 lX8_59 sm8_fail sm8_fail_w jo_cPl_0 hci_X8 (by decide) rfl (Nat.le_of_ble_eq_true rfl) (c8_fail _ _) (fun r16 => ?_)
      exact J_iret dX8_stays_98 rfl rfl
    · refine J_aload_n dX8_stays_53 rfl ?_
      refine J_getR dX8_stays_54 wX8_19 rfl jo_cPl_0 jr_0_2 ?_
      refine J_iconst dX8_stays_57 (v := (1 : Int32)) rfl ?_
      refine J_callV_v (M' := m0_passNights) (as := [_]) dX8_stays_58 lX8_180 sm0_passNights sm0_passNights_w jo_cPl_41 hci_X0 (by decide) rfl (Nat.le_of_ble_eq_true rfl) (c0_passNights _ _ _) (fun r17 => ?_)
      refine J_aload_n dX8_stays_61 rfl ?_
      refine J_getR dX8_stays_62 wX8_19 rfl jo_cPl_0 jr_0_2 ?_
      refine J_iload_n dX8_stays_65 rfl ?_
      refine J_callV_q (M' := m0_find) (as := [_]) dX8_stays_66 lX8_91 sm0_find sm0_find_w jo_cPl_41 hci_X0 (by decide) rfl (Nat.le_of_ble_eq_true rfl) (c0_find _ _ _) (fun r18 => ?_)
      refine J_astoreQ dX8_stays_69 (x := r18) (by decide) rfl ?_
      refine J_aloadQ dX8_stays_71 (x := r18) rfl ?_
      rcases r18 with _ | p19
      · refine J_ifnull0 dX8_stays_73 (tgt := 86) (by decide) ?_
        refine J_iinc dX8_stays_86 rfl (c0 := (1 : Int32)) rfl (by decide) rfl ?_
        refine J_goto dX8_stays_89 (tgt := 47) (by decide) ?_
        refine JF_drop [4] ?_
        exact ih _ _ _
      · refine J_ifnull1 dX8_stays_73 ?_
        refine J_aload dX8_stays_76 rfl ?_
        refine JF_chk (fun o20 => ?_)
        refine J_getI dX8_stays_78 wX8_110 rfl o20 ?_
        refine J_if_eq dX8_stays_81 (tgt := 86) (by decide) (fun c21 => ?_) (fun c21 => ?_)
        · refine J_iinc dX8_stays_86 rfl (c0 := (1 : Int32)) rfl (by decide) rfl ?_
          refine J_goto dX8_stays_89 (tgt := 47) (by decide) ?_
          refine JF_drop [4] ?_
          exact ih _ _ _
        · refine J_iload_n dX8_stays_84 rfl ?_
          exact J_iret dX8_stays_85 rfl rfl
set_option maxRecDepth 20000 in
theorem c8_stays (a1 : Int32) (μ : JMu) : ∀ b, f8_stays a1 μ = some b → JC m8_stays 6 cPl [.ref 0, .int (a1)] μ (some (.int b.1), b.2) := by
  refine JC_of (emb := (fun b : Int32 × JMu => (some (.int b.1), b.2))) (L0 := [some (.ref 0), some (.int (a1)), none, none, none]) sm8_stays (Nat.le_of_ble_eq_true rfl) rfl ?_
  unfold f8_stays
  refine J_aload_n dX8_stays_0 rfl ?_
  refine J_getR dX8_stays_1 wX8_12 rfl jo_cPl_0 jr_0_0 ?_
  refine J_iload_n dX8_stays_4 rfl ?_
  refine J_callV_q (M' := m0_find) (as := [_]) dX8_stays_5 lX8_91 sm0_find sm0_find_w jo_cPl_1 hci_X0 (by decide) rfl (Nat.le_of_ble_eq_true rfl) (c0_find _ _ _) (fun r22 => ?_)
  refine J_astore_nQ dX8_stays_8 (x := r22) (by decide) rfl ?_
  refine J_aload_nQ dX8_stays_9 (x := r22) rfl ?_
  rcases r22 with _ | p23
  · refine J_ifnonnull0 dX8_stays_10 ?_
    refine J_aload_n dX8_stays_13 rfl ?_
    refine J_ldc dX8_stays_14 kX8_58 ?_
    refine J_callV_w (M' := m8_fail) (as := [_]) dX8_stays_16 lX8_59 sm8_fail sm8_fail_w jo_cPl_0 hci_X8 (by decide) rfl (Nat.le_of_ble_eq_true rfl) (c8_fail _ _) (fun r24 => ?_)
    exact J_iret dX8_stays_19 rfl rfl
  · refine J_ifnonnull1 dX8_stays_10 (tgt := 20) (by decide) ?_
    refine J_aload_n dX8_stays_20 rfl ?_
    refine JF_chk (fun o25 => ?_)
    refine J_getI dX8_stays_21 wX8_110 rfl o25 ?_
    refine J_if_eq dX8_stays_24 (tgt := 34) (by decide) (fun c26 => ?_) (fun c26 => ?_)
    · refine J_aload_n dX8_stays_34 rfl ?_
      refine J_getR dX8_stays_35 wX8_19 rfl jo_cPl_0 jr_0_2 ?_
      refine J_aload_n dX8_stays_38 rfl ?_
      refine J_getR dX8_stays_39 wX8_12 rfl jo_cPl_0 jr_0_0 ?_
      refine J_callV_v (M' := m0_copyFrom) (as := [_]) dX8_stays_42 lX8_187 sm0_copyFrom sm0_copyFrom_w jo_cPl_41 hci_X0 (by decide) rfl (Nat.le_of_ble_eq_true rfl) (c0_copyFrom _ _ _) (fun r27 => ?_)
      refine J_iconst dX8_stays_45 (v := (1 : Int32)) rfl ?_
      refine J_istore_n dX8_stays_46  (by decide) rfl ?_
      refine JF_drop [2] ?_
      exact c8_stays_b47 jN _ _ _
    · refine J_aload_n dX8_stays_27 rfl ?_
      refine J_ldc dX8_stays_28 kX8_134 ?_
      refine J_callV_w (M' := m8_fail) (as := [_]) dX8_stays_30 lX8_59 sm8_fail sm8_fail_w jo_cPl_0 hci_X8 (by decide) rfl (Nat.le_of_ble_eq_true rfl) (c8_fail _ _) (fun r28 => ?_)
      exact J_iret dX8_stays_33 rfl rfl
set_option maxRecDepth 20000 in
theorem c8_clash_b4 (μ : JMu) (n : Nat) : ∀ (v1 : Int32) (v2 : Int32), JF m8_clash 2 cPl (fun b : Int32 => (some (.int b), μ)) 4 [some (.ref 0), some (.int (v1)), some (.int (v2))] [] μ (f8_clash_b4 n v1 v2 μ) := by
  induction n with
  | zero => intros; exact JF_none
  | succ n ih =>
    intro v1 v2
    rw [f8_clash_b4]
    refine J_iload_n dX8_clash_4 rfl ?_
    refine J_aload_n dX8_clash_5 rfl ?_
    refine J_getR dX8_clash_6 wX8_12 rfl jo_cPl_0 jr_0_0 ?_
    refine J_getI dX8_clash_9 wX8_191 rfl jo_cPl_1 ?_
    refine J_icmp_ge dX8_clash_12 (tgt := 35) (by decide) (fun c4 => ?_) (fun c4 => ?_)
    · refine J_iload_n dX8_clash_35 rfl ?_
      refine J_iconst dX8_clash_36 (v := (2 : Int32)) rfl ?_
      refine J_idiv dX8_clash_37 (by decide) ?_
      exact J_iret dX8_clash_38 rfl rfl
    · refine J_iload_n dX8_clash_15 rfl ?_
      refine J_aload_n dX8_clash_16 rfl ?_
      refine J_getR dX8_clash_17 wX8_12 rfl jo_cPl_0 jr_0_0 ?_
      refine J_iload_n dX8_clash_20 rfl ?_
      refine J_callV_i (M' := m0_clashersWith) (as := [_]) dX8_clash_21 lX8_194 sm0_clashersWith sm0_clashersWith_w jo_cPl_1 hci_X0 (by decide) rfl (Nat.le_of_ble_eq_true rfl) (c0_clashersWith _ _ _) (fun r5 => ?_)
      refine J_callS_i (M' := mj6_bitCount_0f7a4) (as := [_]) dX8_clash_24 lX8_197 smj6_bitCount_0f7a4 smj6_bitCount_0f7a4_w (by decide) rfl (Nat.le_of_ble_eq_true rfl) (cj6_bitCount_0f7a4 cPl _ _) (fun r6 => ?_)
      refine J_iadd dX8_clash_27 ?_
      refine J_istore_n dX8_clash_28  (by decide) rfl ?_
      refine J_iinc dX8_clash_29 rfl (c0 := (1 : Int32)) rfl (by decide) rfl ?_
      refine J_goto dX8_clash_32 (tgt := 4) (by decide) ?_
      exact ih _ _
set_option maxRecDepth 20000 in
theorem c8_clash (μ : JMu) : ∀ b, f8_clash  μ = some b → JC m8_clash 2 cPl [.ref 0] μ (some (.int b), μ) := by
  refine JC_of (emb := (fun b : Int32 => (some (.int b), μ))) (L0 := [some (.ref 0), none, none]) sm8_clash (Nat.le_of_ble_eq_true rfl) rfl ?_
  unfold f8_clash
  refine J_iconst dX8_clash_0 (v := (0 : Int32)) rfl ?_
  refine J_istore_n dX8_clash_1  (by decide) rfl ?_
  refine J_iconst dX8_clash_2 (v := (0 : Int32)) rfl ?_
  refine J_istore_n dX8_clash_3  (by decide) rfl ?_
  exact c8_clash_b4 μ jN _ _
set_option maxRecDepth 20000 in
theorem c8_least (a1 : Int32) (μ : JMu) : ∀ b, f8_least a1 μ = some b → JC m8_least 4 cPl [.ref 0, .int (a1)] μ (some (.int b.1), b.2) := by
  refine JC_of (emb := (fun b : Int32 × JMu => (some (.int b.1), b.2))) (L0 := [some (.ref 0), some (.int (a1)), none]) sm8_least (Nat.le_of_ble_eq_true rfl) rfl ?_
  unfold f8_least
  refine J_iload_n dX8_least_0 rfl ?_
  refine J_iconst dX8_least_1 (v := (0 : Int32)) rfl ?_
  refine J_iconst dX8_least_2 (v := (1 : Int32)) rfl ?_
  refine J_callS_i (M' := m8_isOutside) (as := [_, _, _]) dX8_least_3 lX8_54 sm8_isOutside sm8_isOutside_w (by decide) rfl (Nat.le_of_ble_eq_true rfl) (c8_isOutside _ _ _ _) (fun r7 => ?_)
  refine J_if_eq dX8_least_6 (tgt := 16) (by decide) (fun c8 => ?_) (fun c8 => ?_)
  · refine J_aload_n dX8_least_16 rfl ?_
    refine J_getR dX8_least_17 wX8_12 rfl jo_cPl_0 jr_0_0 ?_
    refine J_callV_i (M' := m0_leastToGiveUp) (as := []) dX8_least_20 lX8_202 sm0_leastToGiveUp sm0_leastToGiveUp_w jo_cPl_1 hci_X0 (by decide) rfl (Nat.le_of_ble_eq_true rfl) (c0_leastToGiveUp _ _) (fun r9 => ?_)
    refine J_istore_n dX8_least_23  (by decide) rfl ?_
    refine J_iload_n dX8_least_24 rfl ?_
    refine J_if_ne dX8_least_25 (tgt := 35) (by decide) (fun c10 => ?_) (fun c10 => ?_)
    · refine J_iload_n dX8_least_28 rfl ?_
      refine J_callS_i (M' := mj6_bitCount_0f7a4) (as := [_]) dX8_least_29 lX8_197 smj6_bitCount_0f7a4 smj6_bitCount_0f7a4_w (by decide) rfl (Nat.le_of_ble_eq_true rfl) (cj6_bitCount_0f7a4 cPl _ _) (fun r11 => ?_)
      refine J_goto dX8_least_32 (tgt := 36) (by decide) ?_
      exact J_iret dX8_least_36 rfl rfl
    · refine J_iload_n dX8_least_35 rfl ?_
      exact J_iret dX8_least_36 rfl rfl
  · refine J_aload_n dX8_least_9 rfl ?_
    refine J_ldc dX8_least_10 kX8_58 ?_
    refine J_callV_w (M' := m8_fail) (as := [_]) dX8_least_12 lX8_59 sm8_fail sm8_fail_w jo_cPl_0 hci_X8 (by decide) rfl (Nat.le_of_ble_eq_true rfl) (c8_fail _ _) (fun r12 => ?_)
    exact J_iret dX8_least_15 rfl rfl
set_option maxRecDepth 20000 in
theorem c8_besideCells (a1 : Int32) (μ : JMu) : ∀ b, f8_besideCells a1 = some b → JC m8_besideCells 0 cPl [.int (a1)] μ (some (.int b), μ) := by
  refine JC_of (emb := (fun b : Int32 => (some (.int b), μ))) (L0 := [some (.int (a1)), none, none]) sm8_besideCells (Nat.le_of_ble_eq_true rfl) rfl ?_
  unfold f8_besideCells
  refine J_iload_n dX8_besideCells_0 rfl ?_
  refine J_bipush dX8_besideCells_1 (v := (8 : Int32)) rfl ?_
  refine J_ishr dX8_besideCells_3 ?_
  refine J_iload_n dX8_besideCells_4 rfl ?_
  refine J_bipush dX8_besideCells_5 (v := (8 : Int32)) rfl ?_
  refine J_ishl dX8_besideCells_7 ?_
  refine J_ldc dX8_besideCells_8 kX8_234 ?_
  refine J_iand dX8_besideCells_10 ?_
  refine J_ior dX8_besideCells_11 ?_
  refine J_istore_n dX8_besideCells_12  (by decide) rfl ?_
  refine J_iload_n dX8_besideCells_13 rfl ?_
  refine J_ldcw dX8_besideCells_14 kX8_275 ?_
  refine J_iand dX8_besideCells_17 ?_
  refine J_iconst dX8_besideCells_18 (v := (1 : Int32)) rfl ?_
  refine J_ishl dX8_besideCells_19 ?_
  refine J_iload_n dX8_besideCells_20 rfl ?_
  refine J_ldcw dX8_besideCells_21 kX8_276 ?_
  refine J_iand dX8_besideCells_24 ?_
  refine J_iconst dX8_besideCells_25 (v := (1 : Int32)) rfl ?_
  refine J_ishr dX8_besideCells_26 ?_
  refine J_ior dX8_besideCells_27 ?_
  refine J_istore_n dX8_besideCells_28  (by decide) rfl ?_
  refine J_iload_n dX8_besideCells_29 rfl ?_
  refine J_iload_n dX8_besideCells_30 rfl ?_
  refine J_ior dX8_besideCells_31 ?_
  exact J_iret dX8_besideCells_32 rfl rfl
set_option maxRecDepth 20000 in
theorem c8_beside (a1 : Int32) (μ : JMu) : ∀ b, f8_beside a1 μ = some b → JC m8_beside 2 cPl [.ref 0, .int (a1)] μ (some (.int b.1), b.2) := by
  refine JC_of (emb := (fun b : Int32 × JMu => (some (.int b.1), b.2))) (L0 := [some (.ref 0), some (.int (a1)), none]) sm8_beside (Nat.le_of_ble_eq_true rfl) rfl ?_
  unfold f8_beside
  refine J_aload_n dX8_beside_0 rfl ?_
  refine J_getR dX8_beside_1 wX8_12 rfl jo_cPl_0 jr_0_0 ?_
  refine J_iload_n dX8_beside_4 rfl ?_
  refine J_callV_q (M' := m0_find) (as := [_]) dX8_beside_5 lX8_91 sm0_find sm0_find_w jo_cPl_1 hci_X0 (by decide) rfl (Nat.le_of_ble_eq_true rfl) (c0_find _ _ _) (fun r7 => ?_)
  refine J_astore_nQ dX8_beside_8 (x := r7) (by decide) rfl ?_
  refine J_aload_nQ dX8_beside_9 (x := r7) rfl ?_
  rcases r7 with _ | p8
  · refine J_ifnonnull0 dX8_beside_10 ?_
    refine J_aload_n dX8_beside_13 rfl ?_
    refine J_ldc dX8_beside_14 kX8_58 ?_
    refine J_callV_w (M' := m8_fail) (as := [_]) dX8_beside_16 lX8_59 sm8_fail sm8_fail_w jo_cPl_0 hci_X8 (by decide) rfl (Nat.le_of_ble_eq_true rfl) (c8_fail _ _) (fun r9 => ?_)
    exact J_iret dX8_beside_19 rfl rfl
  · refine J_ifnonnull1 dX8_beside_10 (tgt := 20) (by decide) ?_
    refine J_aload_n dX8_beside_20 rfl ?_
    refine JF_chk (fun o10 => ?_)
    refine J_getI dX8_beside_21 wX8_103 rfl o10 ?_
    refine J_callS_i (M' := m8_besideCells) (as := [_]) dX8_beside_24 lX8_205 sm8_besideCells sm8_besideCells_w (by decide) rfl (Nat.le_of_ble_eq_true rfl) (c8_besideCells _ _) (fun r11 => ?_)
    refine J_aload_n dX8_beside_27 rfl ?_
    refine J_getR dX8_beside_28 wX8_12 rfl jo_cPl_0 jr_0_0 ?_
    refine J_iload_n dX8_beside_31 rfl ?_
    refine J_callV_i (M' := m0_heldByOthers) (as := [_]) dX8_beside_32 lX8_208 sm0_heldByOthers sm0_heldByOthers_w jo_cPl_1 hci_X0 (by decide) rfl (Nat.le_of_ble_eq_true rfl) (c0_heldByOthers _ _ _) (fun r12 => ?_)
    refine J_iand dX8_beside_35 ?_
    refine J_aload_n dX8_beside_36 rfl ?_
    refine J_getI dX8_beside_37 wX8_103 rfl o10 ?_
    refine J_iconst dX8_beside_40 (v := (-1 : Int32)) rfl ?_
    refine J_ixor dX8_beside_41 ?_
    refine J_iand dX8_beside_42 ?_
    exact J_iret dX8_beside_43 rfl rfl
set_option maxRecDepth 20000 in
theorem c8_findSheet (a1 : Int32) (μ : JMu) : ∀ b, f8_findSheet a1 μ = some b → JC m8_findSheet 0 cPl [.ref 0, .int (a1)] μ (some (jn b), μ) := by
  refine JC_of (emb := (fun b : Option Nat => (some (jn b), μ))) (L0 := [some (.ref 0), some (.int (a1))]) sm8_findSheet (Nat.le_of_ble_eq_true rfl) rfl ?_
  unfold f8_findSheet
  refine J_iload_n dX8_findSheet_0 rfl ?_
  refine J_if_lt dX8_findSheet_1 (tgt := 13) (by decide) (fun c4 => ?_) (fun c4 => ?_)
  · refine J_null dX8_findSheet_13 ?_
    refine J_goto dX8_findSheet_14 (tgt := 23) (by decide) ?_
    exact J_aret (v := none) dX8_findSheet_23 rfl rfl
  · refine J_iload_n dX8_findSheet_4 rfl ?_
    refine J_aload_n dX8_findSheet_5 rfl ?_
    refine J_getR dX8_findSheet_6 wX8_45 rfl jo_cPl_0 jr_0_6 ?_
    refine J_alenQ dX8_findSheet_9 jq_cPl_72 (fun _ => rfl) jl_72 rfl ?_
    refine J_icmp_lt dX8_findSheet_10 (tgt := 17) (by decide) (fun c5 => ?_) (fun c5 => ?_)
    · refine J_aload_n dX8_findSheet_17 rfl ?_
      refine J_getR dX8_findSheet_18 wX8_45 rfl jo_cPl_0 jr_0_6 ?_
      refine J_iload_n dX8_findSheet_21 rfl ?_
      refine JF_chk (fun c6 => ?_)
      refine J_aald dX8_findSheet_22 jq_cPl_72 (fun _ => rfl) jl_72 (jin_spec c6) rfl ?_
      exact J_aret (v := jel 72 a1.toNatClampNeg) dX8_findSheet_23 rfl rfl
    · refine J_null dX8_findSheet_13 ?_
      refine J_goto dX8_findSheet_14 (tgt := 23) (by decide) ?_
      exact J_aret (v := none) dX8_findSheet_23 rfl rfl
set_option maxRecDepth 20000 in
theorem c8_rooms_b27 (μ : JMu) : JF m8_rooms 5 cPl (fun b : Int32 × JMu => (some (.int b.1), b.2)) 27 [some (.ref 0), none, none, none, none] [] μ (f8_rooms_b27  μ) := by
  unfold f8_rooms_b27
  refine J_aload_n dX8_rooms_27 rfl ?_
  refine J_ldc dX8_rooms_28 kX8_58 ?_
  refine J_callV_w (M' := m8_fail) (as := [_]) dX8_rooms_30 lX8_59 sm8_fail sm8_fail_w jo_cPl_0 hci_X8 (by decide) rfl (Nat.le_of_ble_eq_true rfl) (c8_fail _ _) (fun r22 => ?_)
  exact J_iret dX8_rooms_33 rfl rfl
set_option maxRecDepth 20000 in
theorem c8_rooms_b58 (μ : JMu) : JF m8_rooms 5 cPl (fun b : Int32 × JMu => (some (.int b.1), b.2)) 58 [some (.ref 0), none, none, none, none] [] μ (f8_rooms_b58  μ) := by
  unfold f8_rooms_b58
  refine J_aload_n dX8_rooms_58 rfl ?_
  refine J_ldc dX8_rooms_59 kX8_190 ?_
  refine J_callV_w (M' := m8_fail) (as := [_]) dX8_rooms_61 lX8_59 sm8_fail sm8_fail_w jo_cPl_0 hci_X8 (by decide) rfl (Nat.le_of_ble_eq_true rfl) (c8_fail _ _) (fun r23 => ?_)
  exact J_iret dX8_rooms_64 rfl rfl
set_option maxRecDepth 20000 in
theorem c8_rooms_b68 (n : Nat) : ∀ (v2 : Int32) (v3 : Nat) (v4 : Int32) (μ : JMu), JF m8_rooms 5 cPl (fun b : Int32 × JMu => (some (.int b.1), b.2)) 68 [some (.ref 0), none, some (.int (v2)), some (.ref v3), some (.int (v4))] [] μ (f8_rooms_b68 n v2 v3 v4 μ) := by
  induction n with
  | zero => intros; exact JF_none
  | succ n ih =>
    intro v2 v3 v4 μ
    rw [f8_rooms_b68]
    refine J_iload dX8_rooms_68 rfl ?_
    refine J_aload_n dX8_rooms_70 rfl ?_
    refine JF_chk (fun o24 => ?_)
    refine J_getR dX8_rooms_71 wX8_218 rfl o24 rfl ?_
    refine JF_chk (fun o25 => ?_)
    refine J_getI dX8_rooms_74 wX8_143 rfl o25 ?_
    refine J_icmp_ge dX8_rooms_77 (tgt := 108) (by decide) (fun c26 => ?_) (fun c26 => ?_)
    · refine J_aload_n dX8_rooms_108 rfl ?_
      refine J_getR dX8_rooms_109 wX8_39 rfl jo_cPl_0 jr_0_5 ?_
      refine J_getR dX8_rooms_112 wX8_224 rfl jo_cPl_69 jr_69_0 ?_
      refine J_aload_n dX8_rooms_115 rfl ?_
      refine J_getR dX8_rooms_116 wX8_218 rfl o24 rfl ?_
      refine J_callV_v (M' := m3_copyFrom) (as := [_]) dX8_rooms_119 lX8_227 sm3_copyFrom sm3_copyFrom_w jo_cPl_70 hci_X3 (by decide) rfl (Nat.le_of_ble_eq_true rfl) (c3_copyFrom _ _ _) (fun r27 => ?_)
      refine J_iload_n dX8_rooms_122 rfl ?_
      refine J_if_ge dX8_rooms_123 (tgt := 138) (by decide) (fun c28 => ?_) (fun c28 => ?_)
      · refine J_aload_n dX8_rooms_138 rfl ?_
        refine J_getR dX8_rooms_139 wX8_39 rfl jo_cPl_0 jr_0_5 ?_
        refine J_iload_n dX8_rooms_142 rfl ?_
        refine J_callV_i (M' := m7_roomOf) (as := [_]) dX8_rooms_143 lX8_231 sm7_roomOf sm7_roomOf_w jo_cPl_69 hci_X7 (by decide) rfl (Nat.le_of_ble_eq_true rfl) (c7_roomOf _ _) (fun r29 => ?_)
        exact J_iret dX8_rooms_146 rfl rfl
      · refine J_aload_n dX8_rooms_126 rfl ?_
        refine J_getR dX8_rooms_127 wX8_39 rfl jo_cPl_0 jr_0_5 ?_
        refine J_iconst dX8_rooms_130 (v := (0 : Int32)) rfl ?_
        refine J_iconst dX8_rooms_131 (v := (0 : Int32)) rfl ?_
        refine J_callV_i (M' := m7_mostFrom) (as := [_, _]) dX8_rooms_132 lX8_228 sm7_mostFrom sm7_mostFrom_w jo_cPl_69 hci_X7 (by decide) rfl (Nat.le_of_ble_eq_true rfl) (c7_mostFrom _ _ _) (fun r30 => ?_)
        refine J_goto dX8_rooms_135 (tgt := 146) (by decide) ?_
        exact J_iret dX8_rooms_146 rfl rfl
    · refine J_aload_n dX8_rooms_80 rfl ?_
      refine J_getR dX8_rooms_81 wX8_218 rfl o24 rfl ?_
      refine J_iload dX8_rooms_84 rfl ?_
      refine J_callV_i (M' := m3_get) (as := [_]) dX8_rooms_86 lX8_221 sm3_get sm3_get_w o25 hci_X3 (by decide) rfl (Nat.le_of_ble_eq_true rfl) (c3_get _ _ _) (fun r31 => ?_)
      refine J_callS_i (M' := m8_isNoSet) (as := [_]) dX8_rooms_89 lX8_131 sm8_isNoSet sm8_isNoSet_w (by decide) rfl (Nat.le_of_ble_eq_true rfl) (c8_isNoSet _ _) (fun r32 => ?_)
      refine J_if_eq dX8_rooms_92 (tgt := 102) (by decide) (fun c33 => ?_) (fun c33 => ?_)
      · refine J_iinc dX8_rooms_102 rfl (c0 := (1 : Int32)) rfl (by decide) rfl ?_
        refine J_goto dX8_rooms_105 (tgt := 68) (by decide) ?_
        exact ih _ _ _ _
      · refine J_aload_n dX8_rooms_95 rfl ?_
        refine J_ldc dX8_rooms_96 kX8_190 ?_
        refine J_callV_w (M' := m8_fail) (as := [_]) dX8_rooms_98 lX8_59 sm8_fail sm8_fail_w jo_cPl_0 hci_X8 (by decide) rfl (Nat.le_of_ble_eq_true rfl) (c8_fail _ _) (fun r34 => ?_)
        exact J_iret dX8_rooms_101 rfl rfl
set_option maxRecDepth 20000 in
theorem c8_rooms (a1 : Int32) (a2 : Int32) (μ : JMu) : ∀ b, f8_rooms a1 a2 μ = some b → JC m8_rooms 5 cPl [.ref 0, .int (a1), .int (a2)] μ (some (.int b.1), b.2) := by
  refine JC_of (emb := (fun b : Int32 × JMu => (some (.int b.1), b.2))) (L0 := [some (.ref 0), some (.int (a1)), some (.int (a2)), none, none]) sm8_rooms (Nat.le_of_ble_eq_true rfl) rfl ?_
  unfold f8_rooms
  refine J_aload_n dX8_rooms_0 rfl ?_
  refine J_iload_n dX8_rooms_1 rfl ?_
  refine J_callV_q (M' := m8_findSheet) (as := [_]) dX8_rooms_2 lX8_211 sm8_findSheet sm8_findSheet_w jo_cPl_0 hci_X8 (by decide) rfl (Nat.le_of_ble_eq_true rfl) (c8_findSheet _ _) (fun r35 => ?_)
  refine J_astore_nQ dX8_rooms_5 (x := r35) (by decide) rfl ?_
  refine J_aload_nQ dX8_rooms_6 (x := r35) rfl ?_
  rcases r35 with _ | p36
  · refine J_ifnull0 dX8_rooms_7 (tgt := 27) (by decide) ?_
    refine JF_drop [1, 2, 3] ?_
    exact c8_rooms_b27  _
  · refine J_ifnull1 dX8_rooms_7 ?_
    refine J_iload_n dX8_rooms_10 rfl ?_
    refine J_iconst dX8_rooms_11 (v := (-1 : Int32)) rfl ?_
    refine J_aload_n dX8_rooms_12 rfl ?_
    refine J_getR dX8_rooms_13 wX8_12 rfl jo_cPl_0 jr_0_0 ?_
    refine J_getI dX8_rooms_16 wX8_191 rfl jo_cPl_1 ?_
    refine J_iconst dX8_rooms_19 (v := (1 : Int32)) rfl ?_
    refine J_isub dX8_rooms_20 ?_
    refine J_callS_i (M' := m8_isOutside) (as := [_, _, _]) dX8_rooms_21 lX8_54 sm8_isOutside sm8_isOutside_w (by decide) rfl (Nat.le_of_ble_eq_true rfl) (c8_isOutside _ _ _ _) (fun r37 => ?_)
    refine J_if_eq dX8_rooms_24 (tgt := 34) (by decide) (fun c38 => ?_) (fun c38 => ?_)
    · refine J_aload_n dX8_rooms_34 rfl ?_
      refine JF_chk (fun o39 => ?_)
      refine J_getI dX8_rooms_35 wX8_215 rfl o39 ?_
      refine J_if_eq dX8_rooms_38 (tgt := 58) (by decide) (fun c40 => ?_) (fun c40 => ?_)
      · refine JF_drop [1, 2, 3] ?_
        exact c8_rooms_b58  _
      · refine J_aload_n dX8_rooms_41 rfl ?_
        refine J_getR dX8_rooms_42 wX8_218 rfl o39 rfl ?_
        refine JF_chk (fun o41 => ?_)
        refine J_getI dX8_rooms_45 wX8_143 rfl o41 ?_
        refine J_aload_n dX8_rooms_48 rfl ?_
        refine J_getR dX8_rooms_49 wX8_12 rfl jo_cPl_0 jr_0_0 ?_
        refine J_getI dX8_rooms_52 wX8_191 rfl jo_cPl_1 ?_
        refine J_icmp_eq dX8_rooms_55 (tgt := 65) (by decide) (fun c42 => ?_) (fun c42 => ?_)
        · refine J_iconst dX8_rooms_65 (v := (0 : Int32)) rfl ?_
          refine J_istore dX8_rooms_66  (by decide) rfl ?_
          refine JF_drop [1] ?_
          exact c8_rooms_b68 jN _ _ _ _
        · refine JF_drop [1, 2, 3] ?_
          exact c8_rooms_b58  _
    · refine JF_drop [1, 2, 3] ?_
      exact c8_rooms_b27  _
set_option maxRecDepth 20000 in
theorem c8_falls_b20 (μ : JMu) : JF m8_falls 1 cPl (fun b : Int32 × JMu => (some (.int b.1), b.2)) 20 [some (.ref 0), none, none, none] [] μ (f8_falls_b20  μ) := by
  unfold f8_falls_b20
  refine J_aload_n dX8_falls_20 rfl ?_
  refine J_ldc dX8_falls_21 kX8_58 ?_
  refine J_callV_w (M' := m8_fail) (as := [_]) dX8_falls_23 lX8_59 sm8_fail sm8_fail_w jo_cPl_0 hci_X8 (by decide) rfl (Nat.le_of_ble_eq_true rfl) (c8_fail _ _) (fun r9 => ?_)
  exact J_iret dX8_falls_26 rfl rfl
set_option maxRecDepth 20000 in
theorem c8_falls_b29 (n : Nat) : ∀ (v1 : Int32) (v2 : Int32) (v3 : Int32) (μ : JMu), JF m8_falls 1 cPl (fun b : Int32 × JMu => (some (.int b.1), b.2)) 29 [some (.ref 0), some (.int (v1)), some (.int (v2)), some (.int (v3))] [] μ (f8_falls_b29 n v1 v2 v3 μ) := by
  induction n with
  | zero => intros; exact JF_none
  | succ n ih =>
    intro v1 v2 v3 μ
    rw [f8_falls_b29]
    refine J_iload_n dX8_falls_29 rfl ?_
    refine J_bipush dX8_falls_30 (v := (111 : Int32)) rfl ?_
    refine J_icmp_ge dX8_falls_32 (tgt := 73) (by decide) (fun c10 => ?_) (fun c10 => ?_)
    · refine J_iload_n dX8_falls_73 rfl ?_
      exact J_iret dX8_falls_74 rfl rfl
    · refine J_aload_n dX8_falls_35 rfl ?_
      refine J_getR dX8_falls_36 wX8_12 rfl jo_cPl_0 jr_0_0 ?_
      refine J_getI dX8_falls_39 wX8_63 rfl jo_cPl_1 ?_
      refine J_iload_n dX8_falls_42 rfl ?_
      refine J_iadd dX8_falls_43 ?_
      refine J_bipush dX8_falls_44 (v := (16 : Int32)) rfl ?_
      refine J_irem dX8_falls_46 (by decide) ?_
      refine J_iload_n dX8_falls_47 rfl ?_
      refine J_icmp_ne dX8_falls_48 (tgt := 67) (by decide) (fun c11 => ?_) (fun c11 => ?_)
      · refine J_aload_n dX8_falls_51 rfl ?_
        refine J_getR dX8_falls_52 wX8_12 rfl jo_cPl_0 jr_0_0 ?_
        refine J_getI dX8_falls_55 wX8_63 rfl jo_cPl_1 ?_
        refine J_iload_n dX8_falls_58 rfl ?_
        refine J_iadd dX8_falls_59 ?_
        refine J_bipush dX8_falls_60 (v := (7 : Int32)) rfl ?_
        refine J_irem dX8_falls_62 (by decide) ?_
        refine J_iload_n dX8_falls_63 rfl ?_
        refine J_icmp_eq dX8_falls_64 (tgt := 73) (by decide) (fun c12 => ?_) (fun c12 => ?_)
        · refine J_iload_n dX8_falls_73 rfl ?_
          exact J_iret dX8_falls_74 rfl rfl
        · refine J_iinc dX8_falls_67 rfl (c0 := (1 : Int32)) rfl (by decide) rfl ?_
          refine J_goto dX8_falls_70 (tgt := 29) (by decide) ?_
          exact ih _ _ _ _
      · refine J_iinc dX8_falls_67 rfl (c0 := (1 : Int32)) rfl (by decide) rfl ?_
        refine J_goto dX8_falls_70 (tgt := 29) (by decide) ?_
        exact ih _ _ _ _
set_option maxRecDepth 20000 in
theorem c8_falls (a1 : Int32) (a2 : Int32) (μ : JMu) : ∀ b, f8_falls a1 a2 μ = some b → JC m8_falls 1 cPl [.ref 0, .int (a1), .int (a2)] μ (some (.int b.1), b.2) := by
  refine JC_of (emb := (fun b : Int32 × JMu => (some (.int b.1), b.2))) (L0 := [some (.ref 0), some (.int (a1)), some (.int (a2)), none]) sm8_falls (Nat.le_of_ble_eq_true rfl) rfl ?_
  unfold f8_falls
  refine J_iload_n dX8_falls_0 rfl ?_
  refine J_iconst dX8_falls_1 (v := (0 : Int32)) rfl ?_
  refine J_bipush dX8_falls_2 (v := (15 : Int32)) rfl ?_
  refine J_callS_i (M' := m8_isOutside) (as := [_, _, _]) dX8_falls_4 lX8_54 sm8_isOutside sm8_isOutside_w (by decide) rfl (Nat.le_of_ble_eq_true rfl) (c8_isOutside _ _ _ _) (fun r13 => ?_)
  refine J_if_ne dX8_falls_7 (tgt := 20) (by decide) (fun c14 => ?_) (fun c14 => ?_)
  · refine J_iload_n dX8_falls_10 rfl ?_
    refine J_iconst dX8_falls_11 (v := (0 : Int32)) rfl ?_
    refine J_bipush dX8_falls_12 (v := (6 : Int32)) rfl ?_
    refine J_callS_i (M' := m8_isOutside) (as := [_, _, _]) dX8_falls_14 lX8_54 sm8_isOutside sm8_isOutside_w (by decide) rfl (Nat.le_of_ble_eq_true rfl) (c8_isOutside _ _ _ _) (fun r15 => ?_)
    refine J_if_eq dX8_falls_17 (tgt := 27) (by decide) (fun c16 => ?_) (fun c16 => ?_)
    · refine J_iconst dX8_falls_27 (v := (0 : Int32)) rfl ?_
      refine J_istore_n dX8_falls_28  (by decide) rfl ?_
      exact c8_falls_b29 jN _ _ _ _
    · refine JF_drop [1, 2] ?_
      exact c8_falls_b20  _
  · refine JF_drop [1, 2] ?_
    exact c8_falls_b20  _
set_option maxRecDepth 20000 in
theorem c8_was_b112 (k37 : Nat → Int32 → Int32 → JMu → Option (Int32 × JMu)) (hk37 : ∀ (v2 : Nat) (v3 : Int32) (v4 : Int32) (μ : JMu), JF m8_was 4 cPl (fun b : Int32 × JMu => (some (.int b.1), b.2)) 37 [some (.ref 0), none, some (.ref v2), some (.int (v3)), some (.int (v4)), none, none] [] μ (k37 v2 v3 v4 μ)) (v2 : Nat) (v4 : Int32) (s0 : Int32) (s1 : Int32) (μ : JMu) : JF m8_was 4 cPl (fun b : Int32 × JMu => (some (.int b.1), b.2)) 112 [some (.ref 0), none, some (.ref v2), none, some (.int (v4)), none, none] [.int (s0), .int (s1)] μ (f8_was_b112 k37 v2 v4 s0 s1 μ) := by
  unfold f8_was_b112
  refine J_iand dX8_was_112 ?_
  refine J_istore_n dX8_was_113  (by decide) rfl ?_
  refine J_iinc dX8_was_114 rfl (c0 := (1 : Int32)) rfl (by decide) rfl ?_
  refine J_goto dX8_was_117 (tgt := 37) (by decide) ?_
  exact hk37 _ _ _ _
set_option maxRecDepth 20000 in
theorem c8_was_b37 (n : Nat) : ∀ (v2 : Nat) (v3 : Int32) (v4 : Int32) (μ : JMu), JF m8_was 4 cPl (fun b : Int32 × JMu => (some (.int b.1), b.2)) 37 [some (.ref 0), none, some (.ref v2), some (.int (v3)), some (.int (v4)), none, none] [] μ (f8_was_b37 n v2 v3 v4 μ) := by
  induction n with
  | zero => intros; exact JF_none
  | succ n ih =>
    intro v2 v3 v4 μ
    rw [f8_was_b37]
    refine J_iload dX8_was_37 rfl ?_
    refine J_aload_n dX8_was_39 rfl ?_
    refine JF_chk (fun o16 => ?_)
    refine J_getR dX8_was_40 wX8_218 rfl o16 rfl ?_
    refine JF_chk (fun o17 => ?_)
    refine J_getI dX8_was_43 wX8_143 rfl o17 ?_
    refine J_icmp_ge dX8_was_46 (tgt := 120) (by decide) (fun c18 => ?_) (fun c18 => ?_)
    · refine J_iload_n dX8_was_120 rfl ?_
      exact J_iret dX8_was_121 rfl rfl
    · refine J_aload_n dX8_was_49 rfl ?_
      refine J_getR dX8_was_50 wX8_218 rfl o16 rfl ?_
      refine J_iload dX8_was_53 rfl ?_
      refine J_callV_i (M' := m3_get) (as := [_]) dX8_was_55 lX8_221 sm3_get sm3_get_w o17 hci_X3 (by decide) rfl (Nat.le_of_ble_eq_true rfl) (c3_get _ _ _) (fun r19 => ?_)
      refine J_istore dX8_was_58  (by decide) rfl ?_
      refine J_iload dX8_was_60 rfl ?_
      refine J_iconst dX8_was_62 (v := (0 : Int32)) rfl ?_
      refine J_iconst dX8_was_63 (v := (1 : Int32)) rfl ?_
      refine J_callS_i (M' := m8_isOutside) (as := [_, _, _]) dX8_was_64 lX8_54 sm8_isOutside sm8_isOutside_w (by decide) rfl (Nat.le_of_ble_eq_true rfl) (c8_isOutside _ _ _ _) (fun r20 => ?_)
      refine J_if_eq dX8_was_67 (tgt := 77) (by decide) (fun c21 => ?_) (fun c21 => ?_)
      · refine J_aload_n dX8_was_77 rfl ?_
        refine J_getR dX8_was_78 wX8_12 rfl jo_cPl_0 jr_0_0 ?_
        refine J_aload_n dX8_was_81 rfl ?_
        refine J_getR dX8_was_82 wX8_12 rfl jo_cPl_0 jr_0_0 ?_
        refine J_getI dX8_was_85 wX8_63 rfl jo_cPl_1 ?_
        refine J_iload dX8_was_88 rfl ?_
        refine J_iadd dX8_was_90 ?_
        refine J_callV_w (M' := m0_seenIn) (as := [_]) dX8_was_91 lX8_70 sm0_seenIn sm0_seenIn_w jo_cPl_1 hci_X0 (by decide) rfl (Nat.le_of_ble_eq_true rfl) (c0_seenIn _ _ _) (fun r22 => ?_)
        refine J_istore dX8_was_94  (by decide) rfl ?_
        refine J_iload_n dX8_was_96 rfl ?_
        refine J_iload dX8_was_97 rfl ?_
        refine J_iconst dX8_was_99 (v := (1 : Int32)) rfl ?_
        refine J_icmp_ne dX8_was_100 (tgt := 108) (by decide) (fun c23 => ?_) (fun c23 => ?_)
        · refine J_iload dX8_was_103 rfl ?_
          refine J_goto dX8_was_105 (tgt := 112) (by decide) ?_
          refine JF_drop [3, 5, 6] ?_
          exact c8_was_b112 _ ih _ _ _ _ _
        · refine J_iload dX8_was_108 rfl ?_
          refine J_iconst dX8_was_110 (v := (-1 : Int32)) rfl ?_
          refine J_ixor dX8_was_111 ?_
          refine JF_drop [3, 5, 6] ?_
          exact c8_was_b112 _ ih _ _ _ _ _
      · refine J_aload_n dX8_was_70 rfl ?_
        refine J_ldc dX8_was_71 kX8_190 ?_
        refine J_callV_w (M' := m8_fail) (as := [_]) dX8_was_73 lX8_59 sm8_fail sm8_fail_w jo_cPl_0 hci_X8 (by decide) rfl (Nat.le_of_ble_eq_true rfl) (c8_fail _ _) (fun r24 => ?_)
        exact J_iret dX8_was_76 rfl rfl
set_option maxRecDepth 20000 in
theorem c8_was (a1 : Int32) (μ : JMu) : ∀ b, f8_was a1 μ = some b → JC m8_was 4 cPl [.ref 0, .int (a1)] μ (some (.int b.1), b.2) := by
  refine JC_of (emb := (fun b : Int32 × JMu => (some (.int b.1), b.2))) (L0 := [some (.ref 0), some (.int (a1)), none, none, none, none, none]) sm8_was (Nat.le_of_ble_eq_true rfl) rfl ?_
  unfold f8_was
  refine J_aload_n dX8_was_0 rfl ?_
  refine J_iload_n dX8_was_1 rfl ?_
  refine J_callV_q (M' := m8_findSheet) (as := [_]) dX8_was_2 lX8_211 sm8_findSheet sm8_findSheet_w jo_cPl_0 hci_X8 (by decide) rfl (Nat.le_of_ble_eq_true rfl) (c8_findSheet _ _) (fun r25 => ?_)
  refine J_astore_nQ dX8_was_5 (x := r25) (by decide) rfl ?_
  refine J_aload_nQ dX8_was_6 (x := r25) rfl ?_
  rcases r25 with _ | p26
  · refine J_ifnonnull0 dX8_was_7 ?_
    refine J_aload_n dX8_was_10 rfl ?_
    refine J_ldc dX8_was_11 kX8_58 ?_
    refine J_callV_w (M' := m8_fail) (as := [_]) dX8_was_13 lX8_59 sm8_fail sm8_fail_w jo_cPl_0 hci_X8 (by decide) rfl (Nat.le_of_ble_eq_true rfl) (c8_fail _ _) (fun r27 => ?_)
    exact J_iret dX8_was_16 rfl rfl
  · refine J_ifnonnull1 dX8_was_7 (tgt := 17) (by decide) ?_
    refine J_aload_n dX8_was_17 rfl ?_
    refine JF_chk (fun o28 => ?_)
    refine J_getI dX8_was_18 wX8_215 rfl o28 ?_
    refine J_if_ne dX8_was_21 (tgt := 31) (by decide) (fun c29 => ?_) (fun c29 => ?_)
    · refine J_aload_n dX8_was_24 rfl ?_
      refine J_ldc dX8_was_25 kX8_190 ?_
      refine J_callV_w (M' := m8_fail) (as := [_]) dX8_was_27 lX8_59 sm8_fail sm8_fail_w jo_cPl_0 hci_X8 (by decide) rfl (Nat.le_of_ble_eq_true rfl) (c8_fail _ _) (fun r30 => ?_)
      exact J_iret dX8_was_30 rfl rfl
    · refine J_ldc dX8_was_31 kX8_234 ?_
      refine J_istore_n dX8_was_33  (by decide) rfl ?_
      refine J_iconst dX8_was_34 (v := (0 : Int32)) rfl ?_
      refine J_istore dX8_was_35  (by decide) rfl ?_
      refine JF_drop [1] ?_
      exact c8_was_b37 jN _ _ _ _
set_option maxRecDepth 20000 in
theorem c8_dear_b34 (n : Nat) : ∀ (v1 : Int32) (v2 : Int32) (v3 : Int32) (v4 : Int32) (v5 : Int32) (μ : JMu), JF m8_dear 4 cPl (fun b : Int32 × JMu => (some (.int b.1), b.2)) 34 [some (.ref 0), some (.int (v1)), some (.int (v2)), some (.int (v3)), some (.int (v4)), some (.int (v5)), none] [] μ (f8_dear_b34 n v1 v2 v3 v4 v5 μ) := by
  induction n with
  | zero => intros; exact JF_none
  | succ n ih =>
    intro v1 v2 v3 v4 v5 μ
    rw [f8_dear_b34]
    refine J_iload dX8_dear_34 rfl ?_
    refine J_bipush dX8_dear_36 (v := (24 : Int32)) rfl ?_
    refine J_icmp_ge dX8_dear_38 (tgt := 88) (by decide) (fun c12 => ?_) (fun c12 => ?_)
    · refine J_iload dX8_dear_88 rfl ?_
      refine J_if_ge dX8_dear_90 (tgt := 102) (by decide) (fun c13 => ?_) (fun c13 => ?_)
      · refine J_iload dX8_dear_102 rfl ?_
        exact J_iret dX8_dear_104 rfl rfl
      · refine J_aload_n dX8_dear_93 rfl ?_
        refine J_ldc dX8_dear_94 kX8_190 ?_
        refine J_callV_w (M' := m8_fail) (as := [_]) dX8_dear_96 lX8_59 sm8_fail sm8_fail_w jo_cPl_0 hci_X8 (by decide) rfl (Nat.le_of_ble_eq_true rfl) (c8_fail _ _) (fun r14 => ?_)
        refine J_goto dX8_dear_99 (tgt := 104) (by decide) ?_
        exact J_iret dX8_dear_104 rfl rfl
    · refine J_aload_n dX8_dear_41 rfl ?_
      refine J_getR dX8_dear_42 wX8_12 rfl jo_cPl_0 jr_0_0 ?_
      refine J_iconst dX8_dear_45 (v := (1 : Int32)) rfl ?_
      refine J_iload dX8_dear_46 rfl ?_
      refine J_ishl dX8_dear_48 ?_
      refine J_callV_w (M' := m0_rentTogether) (as := [_]) dX8_dear_49 lX8_73 sm0_rentTogether sm0_rentTogether_w jo_cPl_1 hci_X0 (by decide) rfl (Nat.le_of_ble_eq_true rfl) (c0_rentTogether _ _ _) (fun r15 => ?_)
      refine J_istore dX8_dear_52  (by decide) rfl ?_
      refine J_iload_n dX8_dear_54 rfl ?_
      refine J_iload dX8_dear_55 rfl ?_
      refine J_ishr dX8_dear_57 ?_
      refine J_iconst dX8_dear_58 (v := (1 : Int32)) rfl ?_
      refine J_iand dX8_dear_59 ?_
      refine J_if_ne dX8_dear_60 (tgt := 82) (by decide) (fun c16 => ?_) (fun c16 => ?_)
      · refine J_iload dX8_dear_63 rfl ?_
        refine J_iload_n dX8_dear_65 rfl ?_
        refine J_icmp_gt dX8_dear_66 (tgt := 82) (by decide) (fun c17 => ?_) (fun c17 => ?_)
        · refine J_iinc dX8_dear_82 rfl (c0 := (1 : Int32)) rfl (by decide) rfl ?_
          refine J_goto dX8_dear_85 (tgt := 34) (by decide) ?_
          refine JF_drop [6] ?_
          exact ih _ _ _ _ _ _
        · refine J_iload dX8_dear_69 rfl ?_
          refine J_iload_n dX8_dear_71 rfl ?_
          refine J_icmp_le dX8_dear_72 (tgt := 82) (by decide) (fun c18 => ?_) (fun c18 => ?_)
          · refine J_iinc dX8_dear_82 rfl (c0 := (1 : Int32)) rfl (by decide) rfl ?_
            refine J_goto dX8_dear_85 (tgt := 34) (by decide) ?_
            refine JF_drop [6] ?_
            exact ih _ _ _ _ _ _
          · refine J_iload dX8_dear_75 rfl ?_
            refine J_istore_n dX8_dear_77  (by decide) rfl ?_
            refine J_iload dX8_dear_78 rfl ?_
            refine J_istore dX8_dear_80  (by decide) rfl ?_
            refine J_iinc dX8_dear_82 rfl (c0 := (1 : Int32)) rfl (by decide) rfl ?_
            refine J_goto dX8_dear_85 (tgt := 34) (by decide) ?_
            refine JF_drop [6] ?_
            exact ih _ _ _ _ _ _
      · refine J_iinc dX8_dear_82 rfl (c0 := (1 : Int32)) rfl (by decide) rfl ?_
        refine J_goto dX8_dear_85 (tgt := 34) (by decide) ?_
        refine JF_drop [6] ?_
        exact ih _ _ _ _ _ _
set_option maxRecDepth 20000 in
theorem c8_dear (a1 : Int32) (μ : JMu) : ∀ b, f8_dear a1 μ = some b → JC m8_dear 4 cPl [.ref 0, .int (a1)] μ (some (.int b.1), b.2) := by
  refine JC_of (emb := (fun b : Int32 × JMu => (some (.int b.1), b.2))) (L0 := [some (.ref 0), some (.int (a1)), none, none, none, none, none]) sm8_dear (Nat.le_of_ble_eq_true rfl) rfl ?_
  unfold f8_dear
  refine J_iload_n dX8_dear_0 rfl ?_
  refine J_iconst dX8_dear_1 (v := (0 : Int32)) rfl ?_
  refine J_bipush dX8_dear_2 (v := (99 : Int32)) rfl ?_
  refine J_callS_i (M' := m8_isOutside) (as := [_, _, _]) dX8_dear_4 lX8_54 sm8_isOutside sm8_isOutside_w (by decide) rfl (Nat.le_of_ble_eq_true rfl) (c8_isOutside _ _ _ _) (fun r19 => ?_)
  refine J_if_eq dX8_dear_7 (tgt := 17) (by decide) (fun c20 => ?_) (fun c20 => ?_)
  · refine J_aload_n dX8_dear_17 rfl ?_
    refine J_getR dX8_dear_18 wX8_12 rfl jo_cPl_0 jr_0_0 ?_
    refine J_iconst dX8_dear_21 (v := (-1 : Int32)) rfl ?_
    refine J_callV_i (M' := m0_heldByOthers) (as := [_]) dX8_dear_22 lX8_208 sm0_heldByOthers sm0_heldByOthers_w jo_cPl_1 hci_X0 (by decide) rfl (Nat.le_of_ble_eq_true rfl) (c0_heldByOthers _ _ _) (fun r21 => ?_)
    refine J_istore_n dX8_dear_25  (by decide) rfl ?_
    refine J_iconst dX8_dear_26 (v := (-1 : Int32)) rfl ?_
    refine J_istore_n dX8_dear_27  (by decide) rfl ?_
    refine J_iconst dX8_dear_28 (v := (-1 : Int32)) rfl ?_
    refine J_istore dX8_dear_29  (by decide) rfl ?_
    refine J_iconst dX8_dear_31 (v := (0 : Int32)) rfl ?_
    refine J_istore dX8_dear_32  (by decide) rfl ?_
    exact c8_dear_b34 jN _ _ _ _ _ _
  · refine J_aload_n dX8_dear_10 rfl ?_
    refine J_ldc dX8_dear_11 kX8_58 ?_
    refine J_callV_w (M' := m8_fail) (as := [_]) dX8_dear_13 lX8_59 sm8_fail sm8_fail_w jo_cPl_0 hci_X8 (by decide) rfl (Nat.le_of_ble_eq_true rfl) (c8_fail _ _) (fun r22 => ?_)
    exact J_iret dX8_dear_16 rfl rfl
set_option maxRecDepth 20000 in
theorem c8_seed (a1 : Int32) (μ : JMu) : ∀ b, f8_seed a1 μ = some b → JC m8_seed 0 cPl [.ref 0, .int (a1)] μ (some (.int b.1), b.2) := by
  refine JC_of (emb := (fun b : Int32 × JMu => (some (.int b.1), b.2))) (L0 := [some (.ref 0), some (.int (a1)), none]) sm8_seed (Nat.le_of_ble_eq_true rfl) rfl ?_
  unfold f8_seed
  refine J_aload_n dX8_seed_0 rfl ?_
  refine J_getR dX8_seed_1 wX8_12 rfl jo_cPl_0 jr_0_0 ?_
  refine J_getI dX8_seed_4 wX8_235 rfl jo_cPl_1 ?_
  refine J_istore_n dX8_seed_7  (by decide) rfl ?_
  refine J_aload_n dX8_seed_8 rfl ?_
  refine J_getR dX8_seed_9 wX8_12 rfl jo_cPl_0 jr_0_0 ?_
  refine J_iload_n dX8_seed_12 rfl ?_
  refine J_putI dX8_seed_13 wX8_235 rfl jo_cPl_1 ?_
  refine J_iload_n dX8_seed_16 rfl ?_
  exact J_iret dX8_seed_17 rfl rfl
set_option maxRecDepth 20000 in
theorem c8_voice_b24 (μ : JMu) : JF m8_voice 103 cPl (fun b : Int32 × JMu => (some (.int b.1), b.2)) 24 [some (.ref 0), none, none, none, none] [] μ (f8_voice_b24  μ) := by
  unfold f8_voice_b24
  refine J_aload_n dX8_voice_24 rfl ?_
  refine J_ldc dX8_voice_25 kX8_58 ?_
  refine J_callV_w (M' := m8_fail) (as := [_]) dX8_voice_27 lX8_59 sm8_fail sm8_fail_w jo_cPl_0 hci_X8 (by decide) rfl (Nat.le_of_ble_eq_true rfl) (c8_fail _ _) (fun r7 => ?_)
  exact J_iret dX8_voice_30 rfl rfl
set_option maxRecDepth 20000 in
theorem c8_voice (a1 : Int32) (a2 : Int32) (a3 : Int32) (μ : JMu) : ∀ b, f8_voice a1 a2 a3 μ = some b → JC m8_voice 103 cPl [.ref 0, .int (a1), .int (a2), .int (a3)] μ (some (.int b.1), b.2) := by
  refine JC_of (emb := (fun b : Int32 × JMu => (some (.int b.1), b.2))) (L0 := [some (.ref 0), some (.int (a1)), some (.int (a2)), some (.int (a3)), none]) sm8_voice (Nat.le_of_ble_eq_true rfl) rfl ?_
  unfold f8_voice
  refine J_aload_n dX8_voice_0 rfl ?_
  refine J_getR dX8_voice_1 wX8_12 rfl jo_cPl_0 jr_0_0 ?_
  refine J_iload_n dX8_voice_4 rfl ?_
  refine J_callV_q (M' := m0_find) (as := [_]) dX8_voice_5 lX8_91 sm0_find sm0_find_w jo_cPl_1 hci_X0 (by decide) rfl (Nat.le_of_ble_eq_true rfl) (c0_find _ _ _) (fun r8 => ?_)
  refine J_astoreQ dX8_voice_8 (x := r8) (by decide) rfl ?_
  refine J_aloadQ dX8_voice_10 (x := r8) rfl ?_
  rcases r8 with _ | p9
  · refine J_ifnull0 dX8_voice_12 (tgt := 24) (by decide) ?_
    refine JF_drop [1, 2, 3, 4] ?_
    exact c8_voice_b24  _
  · refine J_ifnull1 dX8_voice_12 ?_
    refine J_iload_n dX8_voice_15 rfl ?_
    refine J_iconst dX8_voice_16 (v := (0 : Int32)) rfl ?_
    refine J_iconst dX8_voice_17 (v := (3 : Int32)) rfl ?_
    refine J_callS_i (M' := m8_isOutside) (as := [_, _, _]) dX8_voice_18 lX8_54 sm8_isOutside sm8_isOutside_w (by decide) rfl (Nat.le_of_ble_eq_true rfl) (c8_isOutside _ _ _ _) (fun r10 => ?_)
    refine J_if_eq dX8_voice_21 (tgt := 31) (by decide) (fun c11 => ?_) (fun c11 => ?_)
    · refine J_aload_n dX8_voice_31 rfl ?_
      refine J_getR dX8_voice_32 wX8_32 rfl jo_cPl_0 jr_0_4 ?_
      refine J_aload dX8_voice_35 rfl ?_
      refine J_iload_n dX8_voice_37 rfl ?_
      refine J_iload_n dX8_voice_38 rfl ?_
      refine J_iload_n dX8_voice_39 rfl ?_
      refine J_callV_w (M' := m5_speak) (as := [_, _, _, _]) dX8_voice_40 lX8_238 sm5_speak sm5_speak_w jo_cPl_66 hci_X5 (by decide) rfl (Nat.le_of_ble_eq_true rfl) (c5_speak _ _ _ _ _) (fun r12 => ?_)
      exact J_iret dX8_voice_43 rfl rfl
    · refine JF_drop [1, 2, 3, 4] ?_
      exact c8_voice_b24  _
set_option maxRecDepth 20000 in
theorem c8_trace (a1 : Int32) (μ : JMu) : ∀ b, f8_trace a1 μ = some b → JC m8_trace 1 cPl [.ref 0, .int (a1)] μ (some (.int b.1), b.2) := by
  refine JC_of (emb := (fun b : Int32 × JMu => (some (.int b.1), b.2))) (L0 := [some (.ref 0), some (.int (a1))]) sm8_trace (Nat.le_of_ble_eq_true rfl) rfl ?_
  unfold f8_trace
  refine J_aload_n dX8_trace_0 rfl ?_
  refine J_getR dX8_trace_1 wX8_32 rfl jo_cPl_0 jr_0_4 ?_
  refine J_getR dX8_trace_4 wX8_242 rfl jo_cPl_66 jr_66_0 ?_
  refine J_iload_n dX8_trace_7 rfl ?_
  refine J_callV_i (M' := m3_has) (as := [_]) dX8_trace_8 lX8_245 sm3_has sm3_has_w jo_cPl_67 hci_X3 (by decide) rfl (Nat.le_of_ble_eq_true rfl) (c3_has _ _ _) (fun r5 => ?_)
  refine J_if_eq dX8_trace_11 (tgt := 28) (by decide) (fun c6 => ?_) (fun c6 => ?_)
  · refine J_aload_n dX8_trace_28 rfl ?_
    refine J_ldc dX8_trace_29 kX8_190 ?_
    refine J_callV_w (M' := m8_fail) (as := [_]) dX8_trace_31 lX8_59 sm8_fail sm8_fail_w jo_cPl_0 hci_X8 (by decide) rfl (Nat.le_of_ble_eq_true rfl) (c8_fail _ _) (fun r7 => ?_)
    exact J_iret dX8_trace_34 rfl rfl
  · refine J_aload_n dX8_trace_14 rfl ?_
    refine J_getR dX8_trace_15 wX8_32 rfl jo_cPl_0 jr_0_4 ?_
    refine J_getR dX8_trace_18 wX8_242 rfl jo_cPl_66 jr_66_0 ?_
    refine J_iload_n dX8_trace_21 rfl ?_
    refine J_callV_i (M' := m3_get) (as := [_]) dX8_trace_22 lX8_221 sm3_get sm3_get_w jo_cPl_67 hci_X3 (by decide) rfl (Nat.le_of_ble_eq_true rfl) (c3_get _ _ _) (fun r8 => ?_)
    refine J_goto dX8_trace_25 (tgt := 34) (by decide) ?_
    exact J_iret dX8_trace_34 rfl rfl
set_option maxRecDepth 20000 in
theorem c8_sheet_b34 (μ : JMu) : JF m8_sheet 2 cPl (fun b : Int32 × JMu => (some (.int b.1), b.2)) 34 [some (.ref 0), none, none, none, none] [] μ (f8_sheet_b34  μ) := by
  unfold f8_sheet_b34
  refine J_aload_n dX8_sheet_34 rfl ?_
  refine J_ldc dX8_sheet_35 kX8_58 ?_
  refine J_callV_w (M' := m8_fail) (as := [_]) dX8_sheet_37 lX8_59 sm8_fail sm8_fail_w jo_cPl_0 hci_X8 (by decide) rfl (Nat.le_of_ble_eq_true rfl) (c8_fail _ _) (fun r18 => ?_)
  exact J_iret dX8_sheet_40 rfl rfl
set_option maxRecDepth 20000 in
theorem c8_sheet_b93 (s0 : Int32) (s1 : Nat) (μ : JMu) : JF m8_sheet 2 cPl (fun b : Int32 × JMu => (some (.int b.1), b.2)) 93 [none, none, none, none, none] [.int (s0), .ref s1] μ (f8_sheet_b93 s0 s1 μ) := by
  unfold f8_sheet_b93
  refine JF_chk (fun o19 => ?_)
  refine J_callV_v (M' := m3_fillWithNone) (as := [_]) dX8_sheet_93 lX8_248 sm3_fillWithNone sm3_fillWithNone_w o19 hci_X3 (by decide) rfl (Nat.le_of_ble_eq_true rfl) (c3_fillWithNone _ _ _) (fun r20 => ?_)
  refine J_iconst dX8_sheet_96 (v := (1 : Int32)) rfl ?_
  exact J_iret dX8_sheet_97 rfl rfl
set_option maxRecDepth 20000 in
theorem c8_sheet_b73 (v2 : Int32) (v3 : Int32) (v4 : Nat) (μ : JMu) : JF m8_sheet 2 cPl (fun b : Int32 × JMu => (some (.int b.1), b.2)) 73 [none, none, some (.int (v2)), some (.int (v3)), some (.ref v4)] [] μ (f8_sheet_b73 v2 v3 v4 μ) := by
  unfold f8_sheet_b73
  refine J_aload dX8_sheet_73 rfl ?_
  refine J_iload_n dX8_sheet_75 rfl ?_
  refine JF_chk (fun o21 => ?_)
  refine J_putI dX8_sheet_76 wX8_215 rfl o21 ?_
  refine J_aload dX8_sheet_79 rfl ?_
  refine J_getR dX8_sheet_81 wX8_218 rfl o21 rfl ?_
  refine J_iload_n dX8_sheet_84 rfl ?_
  refine J_if_ne dX8_sheet_85 (tgt := 92) (by decide) (fun c22 => ?_) (fun c22 => ?_)
  · refine J_iconst dX8_sheet_88 (v := (0 : Int32)) rfl ?_
    refine J_goto dX8_sheet_89 (tgt := 93) (by decide) ?_
    refine JF_drop [2, 3, 4] ?_
    exact c8_sheet_b93 _ _ _
  · refine J_iload_n dX8_sheet_92 rfl ?_
    refine JF_drop [2, 3, 4] ?_
    exact c8_sheet_b93 _ _ _
set_option maxRecDepth 20000 in
theorem c8_sheet_b56 (v2 : Int32) (v3 : Int32) (v4 : Nat) (μ : JMu) : JF m8_sheet 2 cPl (fun b : Int32 × JMu => (some (.int b.1), b.2)) 56 [some (.ref 0), none, some (.int (v2)), some (.int (v3)), some (.ref v4)] [] μ (f8_sheet_b56 v2 v3 v4 μ) := by
  unfold f8_sheet_b56
  refine J_iload_n dX8_sheet_56 rfl ?_
  refine J_if_eq dX8_sheet_57 (tgt := 73) (by decide) (fun c23 => ?_) (fun c23 => ?_)
  · refine JF_drop [0] ?_
    exact c8_sheet_b73 _ _ _ _
  · refine J_iload_n dX8_sheet_60 rfl ?_
    refine J_bipush dX8_sheet_61 (v := (40 : Int32)) rfl ?_
    refine J_icmp_le dX8_sheet_63 (tgt := 73) (by decide) (fun c24 => ?_) (fun c24 => ?_)
    · refine JF_drop [0] ?_
      exact c8_sheet_b73 _ _ _ _
    · refine J_aload_n dX8_sheet_66 rfl ?_
      refine J_ldc dX8_sheet_67 kX8_58 ?_
      refine J_callV_w (M' := m8_fail) (as := [_]) dX8_sheet_69 lX8_59 sm8_fail sm8_fail_w jo_cPl_0 hci_X8 (by decide) rfl (Nat.le_of_ble_eq_true rfl) (c8_fail _ _) (fun r25 => ?_)
      exact J_iret dX8_sheet_72 rfl rfl
set_option maxRecDepth 20000 in
theorem c8_sheet_b41 (v2 : Int32) (v3 : Int32) (v4 : Nat) (μ : JMu) : JF m8_sheet 2 cPl (fun b : Int32 × JMu => (some (.int b.1), b.2)) 41 [some (.ref 0), none, some (.int (v2)), some (.int (v3)), some (.ref v4)] [] μ (f8_sheet_b41 v2 v3 v4 μ) := by
  unfold f8_sheet_b41
  refine J_iload_n dX8_sheet_41 rfl ?_
  refine J_if_eq dX8_sheet_42 (tgt := 56) (by decide) (fun c26 => ?_) (fun c26 => ?_)
  · exact c8_sheet_b56 _ _ _ _
  · refine J_iload_n dX8_sheet_45 rfl ?_
    refine J_if_ge dX8_sheet_46 (tgt := 56) (by decide) (fun c27 => ?_) (fun c27 => ?_)
    · exact c8_sheet_b56 _ _ _ _
    · refine J_aload_n dX8_sheet_49 rfl ?_
      refine J_ldc dX8_sheet_50 kX8_134 ?_
      refine J_callV_w (M' := m8_fail) (as := [_]) dX8_sheet_52 lX8_59 sm8_fail sm8_fail_w jo_cPl_0 hci_X8 (by decide) rfl (Nat.le_of_ble_eq_true rfl) (c8_fail _ _) (fun r28 => ?_)
      exact J_iret dX8_sheet_55 rfl rfl
set_option maxRecDepth 20000 in
theorem c8_sheet (a1 : Int32) (a2 : Int32) (a3 : Int32) (μ : JMu) : ∀ b, f8_sheet a1 a2 a3 μ = some b → JC m8_sheet 2 cPl [.ref 0, .int (a1), .int (a2), .int (a3)] μ (some (.int b.1), b.2) := by
  refine JC_of (emb := (fun b : Int32 × JMu => (some (.int b.1), b.2))) (L0 := [some (.ref 0), some (.int (a1)), some (.int (a2)), some (.int (a3)), none]) sm8_sheet (Nat.le_of_ble_eq_true rfl) rfl ?_
  unfold f8_sheet
  refine J_aload_n dX8_sheet_0 rfl ?_
  refine J_iload_n dX8_sheet_1 rfl ?_
  refine J_callV_q (M' := m8_findSheet) (as := [_]) dX8_sheet_2 lX8_211 sm8_findSheet sm8_findSheet_w jo_cPl_0 hci_X8 (by decide) rfl (Nat.le_of_ble_eq_true rfl) (c8_findSheet _ _) (fun r29 => ?_)
  refine J_astoreQ dX8_sheet_5 (x := r29) (by decide) rfl ?_
  refine J_aloadQ dX8_sheet_7 (x := r29) rfl ?_
  rcases r29 with _ | p30
  · refine J_ifnull0 dX8_sheet_9 (tgt := 34) (by decide) ?_
    refine JF_drop [1, 2, 3, 4] ?_
    exact c8_sheet_b34  _
  · refine J_ifnull1 dX8_sheet_9 ?_
    refine J_iload_n dX8_sheet_12 rfl ?_
    refine J_if_eq dX8_sheet_13 (tgt := 41) (by decide) (fun c31 => ?_) (fun c31 => ?_)
    · refine JF_drop [1] ?_
      exact c8_sheet_b41 _ _ _ _
    · refine J_iload_n dX8_sheet_16 rfl ?_
      refine J_bipush dX8_sheet_17 (v := (8 : Int32)) rfl ?_
      refine J_icmp_eq dX8_sheet_19 (tgt := 41) (by decide) (fun c32 => ?_) (fun c32 => ?_)
      · refine JF_drop [1] ?_
        exact c8_sheet_b41 _ _ _ _
      · refine J_iload_n dX8_sheet_22 rfl ?_
        refine J_bipush dX8_sheet_23 (v := (16 : Int32)) rfl ?_
        refine J_icmp_eq dX8_sheet_25 (tgt := 41) (by decide) (fun c33 => ?_) (fun c33 => ?_)
        · refine JF_drop [1] ?_
          exact c8_sheet_b41 _ _ _ _
        · refine J_iload_n dX8_sheet_28 rfl ?_
          refine J_bipush dX8_sheet_29 (v := (32 : Int32)) rfl ?_
          refine J_icmp_eq dX8_sheet_31 (tgt := 41) (by decide) (fun c34 => ?_) (fun c34 => ?_)
          · refine JF_drop [1] ?_
            exact c8_sheet_b41 _ _ _ _
          · refine JF_drop [1, 2, 3, 4] ?_
            exact c8_sheet_b34  _
set_option maxRecDepth 20000 in
theorem c8_put (a1 : Int32) (a2 : Int32) (a3 : Int32) (μ : JMu) : ∀ b, f8_put a1 a2 a3 μ = some b → JC m8_put 2 cPl [.ref 0, .int (a1), .int (a2), .int (a3)] μ (some (.int b.1), b.2) := by
  refine JC_of (emb := (fun b : Int32 × JMu => (some (.int b.1), b.2))) (L0 := [some (.ref 0), some (.int (a1)), some (.int (a2)), some (.int (a3)), none]) sm8_put (Nat.le_of_ble_eq_true rfl) rfl ?_
  unfold f8_put
  refine J_aload_n dX8_put_0 rfl ?_
  refine J_iload_n dX8_put_1 rfl ?_
  refine J_callV_q (M' := m8_findSheet) (as := [_]) dX8_put_2 lX8_211 sm8_findSheet sm8_findSheet_w jo_cPl_0 hci_X8 (by decide) rfl (Nat.le_of_ble_eq_true rfl) (c8_findSheet _ _) (fun r13 => ?_)
  refine J_astoreQ dX8_put_5 (x := r13) (by decide) rfl ?_
  refine J_aloadQ dX8_put_7 (x := r13) rfl ?_
  rcases r13 with _ | p14
  · refine J_ifnonnull0 dX8_put_9 ?_
    refine J_aload_n dX8_put_12 rfl ?_
    refine J_ldc dX8_put_13 kX8_58 ?_
    refine J_callV_w (M' := m8_fail) (as := [_]) dX8_put_15 lX8_59 sm8_fail sm8_fail_w jo_cPl_0 hci_X8 (by decide) rfl (Nat.le_of_ble_eq_true rfl) (c8_fail _ _) (fun r15 => ?_)
    exact J_iret dX8_put_18 rfl rfl
  · refine J_ifnonnull1 dX8_put_9 (tgt := 19) (by decide) ?_
    refine J_aload dX8_put_19 rfl ?_
    refine JF_chk (fun o16 => ?_)
    refine J_getI dX8_put_21 wX8_215 rfl o16 ?_
    refine J_if_ne dX8_put_24 (tgt := 34) (by decide) (fun c17 => ?_) (fun c17 => ?_)
    · refine J_aload_n dX8_put_27 rfl ?_
      refine J_ldc dX8_put_28 kX8_190 ?_
      refine J_callV_w (M' := m8_fail) (as := [_]) dX8_put_30 lX8_59 sm8_fail sm8_fail_w jo_cPl_0 hci_X8 (by decide) rfl (Nat.le_of_ble_eq_true rfl) (c8_fail _ _) (fun r24 => ?_)
      exact J_iret dX8_put_33 rfl rfl
    · refine J_aload dX8_put_34 rfl ?_
      refine J_getR dX8_put_36 wX8_218 rfl o16 rfl ?_
      refine J_iload_n dX8_put_39 rfl ?_
      refine JF_chk (fun o18 => ?_)
      refine J_callV_i (M' := m3_has) (as := [_]) dX8_put_40 lX8_245 sm3_has sm3_has_w o18 hci_X3 (by decide) rfl (Nat.le_of_ble_eq_true rfl) (c3_has _ _ _) (fun r19 => ?_)
      refine J_if_ne dX8_put_43 (tgt := 53) (by decide) (fun c20 => ?_) (fun c20 => ?_)
      · refine J_aload_n dX8_put_46 rfl ?_
        refine J_ldc dX8_put_47 kX8_58 ?_
        refine J_callV_w (M' := m8_fail) (as := [_]) dX8_put_49 lX8_59 sm8_fail sm8_fail_w jo_cPl_0 hci_X8 (by decide) rfl (Nat.le_of_ble_eq_true rfl) (c8_fail _ _) (fun r23 => ?_)
        exact J_iret dX8_put_52 rfl rfl
      · refine J_aload dX8_put_53 rfl ?_
        refine J_getR dX8_put_55 wX8_218 rfl o16 rfl ?_
        refine J_iload_n dX8_put_58 rfl ?_
        refine J_aload dX8_put_59 rfl ?_
        refine J_iload_n dX8_put_61 rfl ?_
        refine J_callV_i (M' := m4_lowestBits) (as := [_]) dX8_put_62 lX8_251 sm4_lowestBits sm4_lowestBits_w o16 hci_X4 (by decide) rfl (Nat.le_of_ble_eq_true rfl) (c4_lowestBits _ _ _) (fun r21 => ?_)
        refine J_callV_v (M' := m3_set) (as := [_, _]) dX8_put_65 lX8_254 sm3_set sm3_set_w o18 hci_X3 (by decide) rfl (Nat.le_of_ble_eq_true rfl) (c3_set _ _ _ _) (fun r22 => ?_)
        refine J_iconst dX8_put_68 (v := (1 : Int32)) rfl ?_
        exact J_iret dX8_put_69 rfl rfl
set_option maxRecDepth 20000 in
theorem c8_move_b24 (μ : JMu) : JF m8_move 2 cPl (fun b : Int32 × JMu => (some (.int b.1), b.2)) 24 [some (.ref 0), none, none, none, none, none, none, none] [] μ (f8_move_b24  μ) := by
  unfold f8_move_b24
  refine J_aload_n dX8_move_24 rfl ?_
  refine J_ldc dX8_move_25 kX8_58 ?_
  refine J_callV_w (M' := m8_fail) (as := [_]) dX8_move_27 lX8_59 sm8_fail sm8_fail_w jo_cPl_0 hci_X8 (by decide) rfl (Nat.le_of_ble_eq_true rfl) (c8_fail _ _) (fun r17 => ?_)
  exact J_iret dX8_move_30 rfl rfl
set_option maxRecDepth 20000 in
theorem c8_move_b47 (μ : JMu) : JF m8_move 2 cPl (fun b : Int32 × JMu => (some (.int b.1), b.2)) 47 [some (.ref 0), none, none, none, none, none, none, none] [] μ (f8_move_b47  μ) := by
  unfold f8_move_b47
  refine J_aload_n dX8_move_47 rfl ?_
  refine J_ldc dX8_move_48 kX8_190 ?_
  refine J_callV_w (M' := m8_fail) (as := [_]) dX8_move_50 lX8_59 sm8_fail sm8_fail_w jo_cPl_0 hci_X8 (by decide) rfl (Nat.le_of_ble_eq_true rfl) (c8_fail _ _) (fun r18 => ?_)
  exact J_iret dX8_move_53 rfl rfl
set_option maxRecDepth 20000 in
theorem c8_move (a1 : Int32) (a2 : Int32) (a3 : Int32) (a4 : Int32) (a5 : Int32) (μ : JMu) : ∀ b, f8_move a1 a2 a3 a4 a5 μ = some b → JC m8_move 2 cPl [.ref 0, .int (a1), .int (a2), .int (a3), .int (a4), .int (a5)] μ (some (.int b.1), b.2) := by
  refine JC_of (emb := (fun b : Int32 × JMu => (some (.int b.1), b.2))) (L0 := [some (.ref 0), some (.int (a1)), some (.int (a2)), some (.int (a3)), some (.int (a4)), some (.int (a5)), none, none]) sm8_move (Nat.le_of_ble_eq_true rfl) rfl ?_
  unfold f8_move
  refine J_aload_n dX8_move_0 rfl ?_
  refine J_iload_n dX8_move_1 rfl ?_
  refine J_callV_q (M' := m8_findSheet) (as := [_]) dX8_move_2 lX8_211 sm8_findSheet sm8_findSheet_w jo_cPl_0 hci_X8 (by decide) rfl (Nat.le_of_ble_eq_true rfl) (c8_findSheet _ _) (fun r19 => ?_)
  refine J_astoreQ dX8_move_5 (x := r19) (by decide) rfl ?_
  refine J_aload_n dX8_move_7 rfl ?_
  refine J_iload_n dX8_move_8 rfl ?_
  refine J_callV_q (M' := m8_findSheet) (as := [_]) dX8_move_9 lX8_211 sm8_findSheet sm8_findSheet_w jo_cPl_0 hci_X8 (by decide) rfl (Nat.le_of_ble_eq_true rfl) (c8_findSheet _ _) (fun r20 => ?_)
  refine J_astoreQ dX8_move_12 (x := r20) (by decide) (jok_q (x := r19) rfl) ?_
  refine J_aloadQ dX8_move_14 (x := r19) rfl ?_
  rcases r19 with _ | p21
  · refine J_ifnull0 dX8_move_16 (tgt := 24) (by decide) ?_
    refine JF_drop [1, 2, 3, 4, 5, 6, 7] ?_
    exact c8_move_b24  _
  · refine J_ifnull1 dX8_move_16 ?_
    refine J_aloadQ dX8_move_19 (x := r20) rfl ?_
    rcases r20 with _ | p22
    · refine J_ifnonnull0 dX8_move_21 ?_
      refine JF_drop [1, 2, 3, 4, 5, 6, 7] ?_
      exact c8_move_b24  _
    · refine J_ifnonnull1 dX8_move_21 (tgt := 31) (by decide) ?_
      refine J_aload dX8_move_31 rfl ?_
      refine JF_chk (fun o23 => ?_)
      refine J_getI dX8_move_33 wX8_215 rfl o23 ?_
      refine J_if_eq dX8_move_36 (tgt := 47) (by decide) (fun c24 => ?_) (fun c24 => ?_)
      · refine JF_drop [1, 2, 3, 4, 5, 6, 7] ?_
        exact c8_move_b47  _
      · refine J_aload dX8_move_39 rfl ?_
        refine JF_chk (fun o25 => ?_)
        refine J_getI dX8_move_41 wX8_215 rfl o25 ?_
        refine J_if_ne dX8_move_44 (tgt := 54) (by decide) (fun c26 => ?_) (fun c26 => ?_)
        · refine JF_drop [1, 2, 3, 4, 5, 6, 7] ?_
          exact c8_move_b47  _
        · refine J_aload dX8_move_54 rfl ?_
          refine J_getI dX8_move_56 wX8_215 rfl o23 ?_
          refine J_aload dX8_move_59 rfl ?_
          refine J_getI dX8_move_61 wX8_215 rfl o25 ?_
          refine J_icmp_eq dX8_move_64 (tgt := 74) (by decide) (fun c27 => ?_) (fun c27 => ?_)
          · refine J_aload dX8_move_74 rfl ?_
            refine J_getR dX8_move_76 wX8_218 rfl o25 rfl ?_
            refine J_aload dX8_move_79 rfl ?_
            refine J_getR dX8_move_81 wX8_218 rfl o23 rfl ?_
            refine J_iload_n dX8_move_84 rfl ?_
            refine J_iload dX8_move_85 rfl ?_
            refine J_iload dX8_move_87 rfl ?_
            refine JF_chk (fun o28 => ?_)
            refine J_callV_w (M' := m3_takeFrom) (as := [_, _, _, _]) dX8_move_89 lX8_258 sm3_takeFrom sm3_takeFrom_w o28 hci_X3 (by decide) rfl (Nat.le_of_ble_eq_true rfl) (c3_takeFrom _ _ _ _ _ _) (fun r29 => ?_)
            refine J_if_eq dX8_move_92 (tgt := 100) (by decide) (fun c30 => ?_) (fun c30 => ?_)
            · refine J_aload_n dX8_move_100 rfl ?_
              refine J_ldc dX8_move_101 kX8_58 ?_
              refine J_callV_w (M' := m8_fail) (as := [_]) dX8_move_103 lX8_59 sm8_fail sm8_fail_w jo_cPl_0 hci_X8 (by decide) rfl (Nat.le_of_ble_eq_true rfl) (c8_fail _ _) (fun r31 => ?_)
              exact J_iret dX8_move_106 rfl rfl
            · refine J_iload dX8_move_95 rfl ?_
              refine J_goto dX8_move_97 (tgt := 106) (by decide) ?_
              exact J_iret dX8_move_106 rfl rfl
          · refine J_aload_n dX8_move_67 rfl ?_
            refine J_ldc dX8_move_68 kX8_130 ?_
            refine J_callV_w (M' := m8_fail) (as := [_]) dX8_move_70 lX8_59 sm8_fail sm8_fail_w jo_cPl_0 hci_X8 (by decide) rfl (Nat.le_of_ble_eq_true rfl) (c8_fail _ _) (fun r32 => ?_)
            exact J_iret dX8_move_73 rfl rfl
set_option maxRecDepth 20000 in
theorem c8_leases_b33 (n : Nat) : ∀ (v2 : Nat) (v3 : Int32) (μ : JMu), JF m8_leases 1 cPl (fun b : Int32 × JMu => (some (.int b.1), b.2)) 33 [some (.ref 0), none, some (.ref v2), some (.int (v3)), none, none] [] μ (f8_leases_b33 n v2 v3 μ) := by
  induction n with
  | zero => intros; exact JF_none
  | succ n ih =>
    intro v2 v3 μ
    rw [f8_leases_b33]
    refine J_iload_n dX8_leases_33 rfl ?_
    refine J_aload_n dX8_leases_34 rfl ?_
    refine JF_chk (fun o17 => ?_)
    refine J_getR dX8_leases_35 wX8_218 rfl o17 rfl ?_
    refine JF_chk (fun o18 => ?_)
    refine J_getI dX8_leases_38 wX8_143 rfl o18 ?_
    refine J_icmp_ge dX8_leases_41 (tgt := 100) (by decide) (fun c19 => ?_) (fun c19 => ?_)
    · refine J_aload_n dX8_leases_100 rfl ?_
      refine J_getR dX8_leases_101 wX8_218 rfl o17 rfl ?_
      refine J_getI dX8_leases_104 wX8_143 rfl o18 ?_
      exact J_iret dX8_leases_107 rfl rfl
    · refine J_aload_n dX8_leases_44 rfl ?_
      refine J_getR dX8_leases_45 wX8_12 rfl jo_cPl_0 jr_0_0 ?_
      refine J_iload_n dX8_leases_48 rfl ?_
      refine J_callV_q (M' := m0_find) (as := [_]) dX8_leases_49 lX8_91 sm0_find sm0_find_w jo_cPl_1 hci_X0 (by decide) rfl (Nat.le_of_ble_eq_true rfl) (c0_find _ _ _) (fun r20 => ?_)
      refine J_astoreQ dX8_leases_52 (x := r20) (by decide) rfl ?_
      refine J_aload_n dX8_leases_54 rfl ?_
      refine J_getR dX8_leases_55 wX8_218 rfl o17 rfl ?_
      refine J_iload_n dX8_leases_58 rfl ?_
      refine J_callV_i (M' := m3_get) (as := [_]) dX8_leases_59 lX8_221 sm3_get sm3_get_w o18 hci_X3 (by decide) rfl (Nat.le_of_ble_eq_true rfl) (c3_get _ _ _) (fun r21 => ?_)
      refine J_istore dX8_leases_62  (by decide) (jok_q (x := r20) rfl) ?_
      refine J_iload dX8_leases_64 rfl ?_
      refine J_callS_i (M' := m8_isNoSet) (as := [_]) dX8_leases_66 lX8_131 sm8_isNoSet sm8_isNoSet_w (by decide) rfl (Nat.le_of_ble_eq_true rfl) (c8_isNoSet _ _) (fun r22 => ?_)
      refine J_if_ne dX8_leases_69 (tgt := 85) (by decide) (fun c23 => ?_) (fun c23 => ?_)
      · refine J_aloadQ dX8_leases_72 (x := r20) rfl ?_
        rcases r20 with _ | p24
        · refine J_ifnull0 dX8_leases_74 (tgt := 85) (by decide) ?_
          refine J_iload_n dX8_leases_85 rfl ?_
          exact J_iret dX8_leases_86 rfl rfl
        · refine J_ifnull1 dX8_leases_74 ?_
          refine J_aload dX8_leases_77 rfl ?_
          refine JF_chk (fun o25 => ?_)
          refine J_getI dX8_leases_79 wX8_110 rfl o25 ?_
          refine J_if_eq dX8_leases_82 (tgt := 87) (by decide) (fun c26 => ?_) (fun c26 => ?_)
          · refine J_aload dX8_leases_87 rfl ?_
            refine J_iload dX8_leases_89 rfl ?_
            refine J_putI dX8_leases_91 wX8_103 rfl o25 ?_
            refine J_iinc dX8_leases_94 rfl (c0 := (1 : Int32)) rfl (by decide) rfl ?_
            refine J_goto dX8_leases_97 (tgt := 33) (by decide) ?_
            refine JF_drop [4, 5] ?_
            exact ih _ _ _
          · refine J_iload_n dX8_leases_85 rfl ?_
            exact J_iret dX8_leases_86 rfl rfl
      · refine J_iload_n dX8_leases_85 rfl ?_
        exact J_iret dX8_leases_86 rfl rfl
set_option maxRecDepth 20000 in
theorem c8_leases (a1 : Int32) (μ : JMu) : ∀ b, f8_leases a1 μ = some b → JC m8_leases 1 cPl [.ref 0, .int (a1)] μ (some (.int b.1), b.2) := by
  refine JC_of (emb := (fun b : Int32 × JMu => (some (.int b.1), b.2))) (L0 := [some (.ref 0), some (.int (a1)), none, none, none, none]) sm8_leases (Nat.le_of_ble_eq_true rfl) rfl ?_
  unfold f8_leases
  refine J_aload_n dX8_leases_0 rfl ?_
  refine J_iload_n dX8_leases_1 rfl ?_
  refine J_callV_q (M' := m8_findSheet) (as := [_]) dX8_leases_2 lX8_211 sm8_findSheet sm8_findSheet_w jo_cPl_0 hci_X8 (by decide) rfl (Nat.le_of_ble_eq_true rfl) (c8_findSheet _ _) (fun r27 => ?_)
  refine J_astore_nQ dX8_leases_5 (x := r27) (by decide) rfl ?_
  refine J_aload_nQ dX8_leases_6 (x := r27) rfl ?_
  rcases r27 with _ | p28
  · refine J_ifnonnull0 dX8_leases_7 ?_
    refine J_aload_n dX8_leases_10 rfl ?_
    refine J_ldc dX8_leases_11 kX8_58 ?_
    refine J_callV_w (M' := m8_fail) (as := [_]) dX8_leases_13 lX8_59 sm8_fail sm8_fail_w jo_cPl_0 hci_X8 (by decide) rfl (Nat.le_of_ble_eq_true rfl) (c8_fail _ _) (fun r29 => ?_)
    exact J_iret dX8_leases_16 rfl rfl
  · refine J_ifnonnull1 dX8_leases_7 (tgt := 17) (by decide) ?_
    refine J_aload_n dX8_leases_17 rfl ?_
    refine JF_chk (fun o30 => ?_)
    refine J_getI dX8_leases_18 wX8_215 rfl o30 ?_
    refine J_if_ne dX8_leases_21 (tgt := 31) (by decide) (fun c31 => ?_) (fun c31 => ?_)
    · refine J_aload_n dX8_leases_24 rfl ?_
      refine J_ldc dX8_leases_25 kX8_190 ?_
      refine J_callV_w (M' := m8_fail) (as := [_]) dX8_leases_27 lX8_59 sm8_fail sm8_fail_w jo_cPl_0 hci_X8 (by decide) rfl (Nat.le_of_ble_eq_true rfl) (c8_fail _ _) (fun r32 => ?_)
      exact J_iret dX8_leases_30 rfl rfl
    · refine J_iconst dX8_leases_31 (v := (0 : Int32)) rfl ?_
      refine J_istore_n dX8_leases_32  (by decide) rfl ?_
      refine JF_drop [1] ?_
      exact c8_leases_b33 jN _ _ _
set_option maxRecDepth 20000 in
theorem c8_judge_b52 (n : Nat) : ∀ (v2 : Nat) (v3 : Int32) (v4 : Int32) (μ : JMu), JF m8_judge 1 cPl (fun b : Int32 × JMu => (some (.int b.1), b.2)) 52 [some (.ref 0), none, some (.ref v2), some (.int (v3)), some (.int (v4)), none] [] μ (f8_judge_b52 n v2 v3 v4 μ) := by
  induction n with
  | zero => intros; exact JF_none
  | succ n ih =>
    intro v2 v3 v4 μ
    rw [f8_judge_b52]
    refine J_iload dX8_judge_52 rfl ?_
    refine J_iload_n dX8_judge_54 rfl ?_
    refine J_icmp_ge dX8_judge_55 (tgt := 100) (by decide) (fun c19 => ?_) (fun c19 => ?_)
    · refine J_aload_n dX8_judge_100 rfl ?_
      refine JF_chk (fun o20 => ?_)
      refine J_getR dX8_judge_101 wX8_218 rfl o20 rfl ?_
      refine JF_chk (fun o21 => ?_)
      refine J_getI dX8_judge_104 wX8_143 rfl o21 ?_
      refine J_aload_n dX8_judge_107 rfl ?_
      refine J_getR dX8_judge_108 wX8_12 rfl jo_cPl_0 jr_0_0 ?_
      refine J_getI dX8_judge_111 wX8_191 rfl jo_cPl_1 ?_
      refine J_icmp_ne dX8_judge_114 (tgt := 121) (by decide) (fun c22 => ?_) (fun c22 => ?_)
      · refine J_iconst dX8_judge_117 (v := (-1 : Int32)) rfl ?_
        refine J_goto dX8_judge_118 (tgt := 122) (by decide) ?_
        exact J_iret dX8_judge_122 rfl rfl
      · refine J_iload_n dX8_judge_121 rfl ?_
        exact J_iret dX8_judge_122 rfl rfl
    · refine J_aload_n dX8_judge_58 rfl ?_
      refine J_getR dX8_judge_59 wX8_12 rfl jo_cPl_0 jr_0_0 ?_
      refine J_iload dX8_judge_62 rfl ?_
      refine J_callV_q (M' := m0_find) (as := [_]) dX8_judge_64 lX8_91 sm0_find sm0_find_w jo_cPl_1 hci_X0 (by decide) rfl (Nat.le_of_ble_eq_true rfl) (c0_find _ _ _) (fun r23 => ?_)
      refine J_astoreQ dX8_judge_67 (x := r23) (by decide) rfl ?_
      refine J_aloadQ dX8_judge_69 (x := r23) rfl ?_
      rcases r23 with _ | p24
      · refine J_ifnull0 dX8_judge_71 (tgt := 91) (by decide) ?_
        refine J_iload dX8_judge_91 rfl ?_
        exact J_iret dX8_judge_93 rfl rfl
      · refine J_ifnull1 dX8_judge_71 ?_
        refine J_aload dX8_judge_74 rfl ?_
        refine JF_chk (fun o25 => ?_)
        refine J_getI dX8_judge_76 wX8_106 rfl o25 ?_
        refine J_aload_n dX8_judge_79 rfl ?_
        refine JF_chk (fun o26 => ?_)
        refine J_getR dX8_judge_80 wX8_218 rfl o26 rfl ?_
        refine J_iload dX8_judge_83 rfl ?_
        refine JF_chk (fun o27 => ?_)
        refine J_callV_i (M' := m3_get) (as := [_]) dX8_judge_85 lX8_221 sm3_get sm3_get_w o27 hci_X3 (by decide) rfl (Nat.le_of_ble_eq_true rfl) (c3_get _ _ _) (fun r28 => ?_)
        refine J_icmp_eq dX8_judge_88 (tgt := 94) (by decide) (fun c29 => ?_) (fun c29 => ?_)
        · refine J_iinc dX8_judge_94 rfl (c0 := (1 : Int32)) rfl (by decide) rfl ?_
          refine J_goto dX8_judge_97 (tgt := 52) (by decide) ?_
          refine JF_drop [5] ?_
          exact ih _ _ _ _
        · refine J_iload dX8_judge_91 rfl ?_
          exact J_iret dX8_judge_93 rfl rfl
set_option maxRecDepth 20000 in
theorem c8_judge (a1 : Int32) (μ : JMu) : ∀ b, f8_judge a1 μ = some b → JC m8_judge 1 cPl [.ref 0, .int (a1)] μ (some (.int b.1), b.2) := by
  refine JC_of (emb := (fun b : Int32 × JMu => (some (.int b.1), b.2))) (L0 := [some (.ref 0), some (.int (a1)), none, none, none, none]) sm8_judge (Nat.le_of_ble_eq_true rfl) rfl ?_
  unfold f8_judge
  refine J_aload_n dX8_judge_0 rfl ?_
  refine J_iload_n dX8_judge_1 rfl ?_
  refine J_callV_q (M' := m8_findSheet) (as := [_]) dX8_judge_2 lX8_211 sm8_findSheet sm8_findSheet_w jo_cPl_0 hci_X8 (by decide) rfl (Nat.le_of_ble_eq_true rfl) (c8_findSheet _ _) (fun r30 => ?_)
  refine J_astore_nQ dX8_judge_5 (x := r30) (by decide) rfl ?_
  refine J_aload_nQ dX8_judge_6 (x := r30) rfl ?_
  rcases r30 with _ | p31
  · refine J_ifnonnull0 dX8_judge_7 ?_
    refine J_aload_n dX8_judge_10 rfl ?_
    refine J_ldc dX8_judge_11 kX8_58 ?_
    refine J_callV_w (M' := m8_fail) (as := [_]) dX8_judge_13 lX8_59 sm8_fail sm8_fail_w jo_cPl_0 hci_X8 (by decide) rfl (Nat.le_of_ble_eq_true rfl) (c8_fail _ _) (fun r32 => ?_)
    exact J_iret dX8_judge_16 rfl rfl
  · refine J_ifnonnull1 dX8_judge_7 (tgt := 17) (by decide) ?_
    refine J_aload_n dX8_judge_17 rfl ?_
    refine JF_chk (fun o33 => ?_)
    refine J_getI dX8_judge_18 wX8_215 rfl o33 ?_
    refine J_if_ne dX8_judge_21 (tgt := 31) (by decide) (fun c34 => ?_) (fun c34 => ?_)
    · refine J_aload_n dX8_judge_24 rfl ?_
      refine J_ldc dX8_judge_25 kX8_190 ?_
      refine J_callV_w (M' := m8_fail) (as := [_]) dX8_judge_27 lX8_59 sm8_fail sm8_fail_w jo_cPl_0 hci_X8 (by decide) rfl (Nat.le_of_ble_eq_true rfl) (c8_fail _ _) (fun r36 => ?_)
      exact J_iret dX8_judge_30 rfl rfl
    · refine J_aload_n dX8_judge_31 rfl ?_
      refine J_getR dX8_judge_32 wX8_218 rfl o33 rfl ?_
      refine JF_chk (fun o35 => ?_)
      refine J_getI dX8_judge_35 wX8_143 rfl o35 ?_
      refine J_aload_n dX8_judge_38 rfl ?_
      refine J_getR dX8_judge_39 wX8_12 rfl jo_cPl_0 jr_0_0 ?_
      refine J_getI dX8_judge_42 wX8_191 rfl jo_cPl_1 ?_
      refine J_min dX8_judge_45 lX8_262 wm_min_s wm_i wm_min_c (by decide) (Nat.le_of_ble_eq_true rfl) ?_
      refine J_istore_n dX8_judge_48  (by decide) rfl ?_
      refine J_iconst dX8_judge_49 (v := (0 : Int32)) rfl ?_
      refine J_istore dX8_judge_50  (by decide) rfl ?_
      refine JF_drop [1] ?_
      exact c8_judge_b52 jN _ _ _ _
set_option maxRecDepth 20000 in
theorem c8_image (μ : JMu) : ∀ b, f8_image  μ = some b → JC m8_image 5 cPl [.ref 0] μ (some (.int b.1), b.2) := by
  refine JC_of (emb := (fun b : Int32 × JMu => (some (.int b.1), b.2))) (L0 := [some (.ref 0)]) sm8_image (Nat.le_of_ble_eq_true rfl) rfl ?_
  unfold f8_image
  refine J_aload_n dX8_image_0 rfl ?_
  refine J_getR dX8_image_1 wX8_16 rfl jo_cPl_0 jr_0_1 ?_
  refine J_aload_n dX8_image_4 rfl ?_
  refine J_getR dX8_image_5 wX8_12 rfl jo_cPl_0 jr_0_0 ?_
  refine J_callV_v (M' := m0_copyFrom) (as := [_]) dX8_image_8 lX8_187 sm0_copyFrom sm0_copyFrom_w jo_cPl_21 hci_X0 (by decide) rfl (Nat.le_of_ble_eq_true rfl) (c0_copyFrom _ _ _) (fun r2 => ?_)
  refine J_aload_n dX8_image_11 rfl ?_
  refine J_dup dX8_image_12 rfl ?_
  refine J_getI dX8_image_13 wX8_267 rfl jo_cPl_0 ?_
  refine J_iconst dX8_image_16 (v := (1 : Int32)) rfl ?_
  refine J_iadd dX8_image_17 ?_
  refine J_putI dX8_image_18 wX8_267 rfl jo_cPl_0 ?_
  refine J_aload_n dX8_image_21 rfl ?_
  refine J_getI dX8_image_22 wX8_267 rfl jo_cPl_0 ?_
  exact J_iret dX8_image_25 rfl rfl
set_option maxRecDepth 20000 in
theorem c8_restore (μ : JMu) : ∀ b, f8_restore  μ = some b → JC m8_restore 5 cPl [.ref 0] μ (some (.int b.1), b.2) := by
  refine JC_of (emb := (fun b : Int32 × JMu => (some (.int b.1), b.2))) (L0 := [some (.ref 0)]) sm8_restore (Nat.le_of_ble_eq_true rfl) rfl ?_
  unfold f8_restore
  refine J_aload_n dX8_restore_0 rfl ?_
  refine J_getI dX8_restore_1 wX8_267 rfl jo_cPl_0 ?_
  refine J_if_ne dX8_restore_4 (tgt := 14) (by decide) (fun c4 => ?_) (fun c4 => ?_)
  · refine J_aload_n dX8_restore_7 rfl ?_
    refine J_ldc dX8_restore_8 kX8_190 ?_
    refine J_callV_w (M' := m8_fail) (as := [_]) dX8_restore_10 lX8_59 sm8_fail sm8_fail_w jo_cPl_0 hci_X8 (by decide) rfl (Nat.le_of_ble_eq_true rfl) (c8_fail _ _) (fun r6 => ?_)
    exact J_iret dX8_restore_13 rfl rfl
  · refine J_aload_n dX8_restore_14 rfl ?_
    refine J_getR dX8_restore_15 wX8_12 rfl jo_cPl_0 jr_0_0 ?_
    refine J_aload_n dX8_restore_18 rfl ?_
    refine J_getR dX8_restore_19 wX8_16 rfl jo_cPl_0 jr_0_1 ?_
    refine J_callV_v (M' := m0_copyFrom) (as := [_]) dX8_restore_22 lX8_187 sm0_copyFrom sm0_copyFrom_w jo_cPl_1 hci_X0 (by decide) rfl (Nat.le_of_ble_eq_true rfl) (c0_copyFrom _ _ _) (fun r5 => ?_)
    refine J_aload_n dX8_restore_25 rfl ?_
    refine J_getR dX8_restore_26 wX8_12 rfl jo_cPl_0 jr_0_0 ?_
    refine J_getI dX8_restore_29 wX8_63 rfl jo_cPl_1 ?_
    exact J_iret dX8_restore_32 rfl rfl
set_option maxRecDepth 20000 in
theorem c8_tell (a1 : Int32) (μ : JMu) : ∀ b, f8_tell a1 μ = some b → JC m8_tell 1 cPl [.ref 0, .int (a1)] μ (some (.int b.1), b.2) := by
  refine JC_of (emb := (fun b : Int32 × JMu => (some (.int b.1), b.2))) (L0 := [some (.ref 0), some (.int (a1))]) sm8_tell (Nat.le_of_ble_eq_true rfl) rfl ?_
  unfold f8_tell
  refine J_aload_n dX8_tell_0 rfl ?_
  refine J_getR dX8_tell_1 wX8_12 rfl jo_cPl_0 jr_0_0 ?_
  refine J_getR dX8_tell_4 wX8_270 rfl jo_cPl_1 jr_1_6 ?_
  refine J_iload_n dX8_tell_7 rfl ?_
  refine J_callV_w (M' := m3_add) (as := [_]) dX8_tell_8 lX8_150 sm3_add sm3_add_w jo_cPl_11 hci_X3 (by decide) rfl (Nat.le_of_ble_eq_true rfl) (c3_add _ _ _) (fun r4 => ?_)
  refine J_if_eq dX8_tell_11 (tgt := 27) (by decide) (fun c5 => ?_) (fun c5 => ?_)
  · refine J_aload_n dX8_tell_27 rfl ?_
    refine J_ldc dX8_tell_28 kX8_90 ?_
    refine J_callV_w (M' := m8_fail) (as := [_]) dX8_tell_30 lX8_59 sm8_fail sm8_fail_w jo_cPl_0 hci_X8 (by decide) rfl (Nat.le_of_ble_eq_true rfl) (c8_fail _ _) (fun r6 => ?_)
    exact J_iret dX8_tell_33 rfl rfl
  · refine J_aload_n dX8_tell_14 rfl ?_
    refine J_getR dX8_tell_15 wX8_12 rfl jo_cPl_0 jr_0_0 ?_
    refine J_getR dX8_tell_18 wX8_270 rfl jo_cPl_1 jr_1_6 ?_
    refine J_getI dX8_tell_21 wX8_143 rfl jo_cPl_11 ?_
    refine J_goto dX8_tell_24 (tgt := 33) (by decide) ?_
    exact J_iret dX8_tell_33 rfl rfl
set_option maxRecDepth 20000 in
theorem c8_check_b65 (v1 : Int32) (μ : JMu) : JF m8_check 4 cPl (fun b : Int32 × JMu => (some (.int b.1), b.2)) 65 [some (.ref 0), some (.int (v1)), none] [] μ (f8_check_b65 v1 μ) := by
  unfold f8_check_b65
  refine J_aload_n dX8_check_65 rfl ?_
  refine J_getR dX8_check_66 wX8_12 rfl jo_cPl_0 jr_0_0 ?_
  refine J_getR dX8_check_69 wX8_270 rfl jo_cPl_1 jr_1_6 ?_
  refine J_callV_v (M' := m3_empty) (as := []) dX8_check_72 lX8_160 sm3_empty sm3_empty_w jo_cPl_11 hci_X3 (by decide) rfl (Nat.le_of_ble_eq_true rfl) (c3_empty _ _) (fun r8 => ?_)
  refine J_iload_n dX8_check_75 rfl ?_
  exact J_iret dX8_check_76 rfl rfl
set_option maxRecDepth 20000 in
theorem c8_check_b4 (n : Nat) : ∀ (v1 : Int32) (v2 : Int32) (μ : JMu), JF m8_check 4 cPl (fun b : Int32 × JMu => (some (.int b.1), b.2)) 4 [some (.ref 0), some (.int (v1)), some (.int (v2))] [] μ (f8_check_b4 n v1 v2 μ) := by
  induction n with
  | zero => intros; exact JF_none
  | succ n ih =>
    intro v1 v2 μ
    rw [f8_check_b4]
    refine J_iload_n dX8_check_4 rfl ?_
    refine J_aload_n dX8_check_5 rfl ?_
    refine J_getR dX8_check_6 wX8_12 rfl jo_cPl_0 jr_0_0 ?_
    refine J_getR dX8_check_9 wX8_270 rfl jo_cPl_1 jr_1_6 ?_
    refine J_getI dX8_check_12 wX8_143 rfl jo_cPl_11 ?_
    refine J_icmp_ge dX8_check_15 (tgt := 65) (by decide) (fun c9 => ?_) (fun c9 => ?_)
    · refine JF_drop [2] ?_
      exact c8_check_b65 _ _
    · refine J_iload_n dX8_check_18 rfl ?_
      refine J_if_ne dX8_check_19 (tgt := 65) (by decide) (fun c10 => ?_) (fun c10 => ?_)
      · refine J_aload_n dX8_check_22 rfl ?_
        refine J_getR dX8_check_23 wX8_12 rfl jo_cPl_0 jr_0_0 ?_
        refine J_getR dX8_check_26 wX8_270 rfl jo_cPl_1 jr_1_6 ?_
        refine J_iload_n dX8_check_29 rfl ?_
        refine J_callV_i (M' := m3_get) (as := [_]) dX8_check_30 lX8_221 sm3_get sm3_get_w jo_cPl_11 hci_X3 (by decide) rfl (Nat.le_of_ble_eq_true rfl) (c3_get _ _ _) (fun r11 => ?_)
        refine J_aload_n dX8_check_33 rfl ?_
        refine J_getR dX8_check_34 wX8_12 rfl jo_cPl_0 jr_0_0 ?_
        refine J_aload_n dX8_check_37 rfl ?_
        refine J_getR dX8_check_38 wX8_12 rfl jo_cPl_0 jr_0_0 ?_
        refine J_getI dX8_check_41 wX8_63 rfl jo_cPl_1 ?_
        refine J_iload_n dX8_check_44 rfl ?_
        refine J_iadd dX8_check_45 ?_
        refine J_callV_w (M' := m0_seenIn) (as := [_]) dX8_check_46 lX8_70 sm0_seenIn sm0_seenIn_w jo_cPl_1 hci_X0 (by decide) rfl (Nat.le_of_ble_eq_true rfl) (c0_seenIn _ _ _) (fun r12 => ?_)
        refine J_callS_i (M' := mj6_bitCount_0f7a4) (as := [_]) dX8_check_49 lX8_197 smj6_bitCount_0f7a4 smj6_bitCount_0f7a4_w (by decide) rfl (Nat.le_of_ble_eq_true rfl) (cj6_bitCount_0f7a4 cPl _ _) (fun r13 => ?_)
        refine J_icmp_eq dX8_check_52 (tgt := 59) (by decide) (fun c14 => ?_) (fun c14 => ?_)
        · refine J_iinc dX8_check_59 rfl (c0 := (1 : Int32)) rfl (by decide) rfl ?_
          refine J_goto dX8_check_62 (tgt := 4) (by decide) ?_
          exact ih _ _ _
        · refine J_iconst dX8_check_55 (v := (1 : Int32)) rfl ?_
          refine J_iload_n dX8_check_56 rfl ?_
          refine J_iadd dX8_check_57 ?_
          refine J_istore_n dX8_check_58  (by decide) rfl ?_
          refine J_iinc dX8_check_59 rfl (c0 := (1 : Int32)) rfl (by decide) rfl ?_
          refine J_goto dX8_check_62 (tgt := 4) (by decide) ?_
          exact ih _ _ _
      · refine JF_drop [2] ?_
        exact c8_check_b65 _ _
set_option maxRecDepth 20000 in
theorem c8_check (μ : JMu) : ∀ b, f8_check  μ = some b → JC m8_check 4 cPl [.ref 0] μ (some (.int b.1), b.2) := by
  refine JC_of (emb := (fun b : Int32 × JMu => (some (.int b.1), b.2))) (L0 := [some (.ref 0), none, none]) sm8_check (Nat.le_of_ble_eq_true rfl) rfl ?_
  unfold f8_check
  refine J_iconst dX8_check_0 (v := (0 : Int32)) rfl ?_
  refine J_istore_n dX8_check_1  (by decide) rfl ?_
  refine J_iconst dX8_check_2 (v := (0 : Int32)) rfl ?_
  refine J_istore_n dX8_check_3  (by decide) rfl ?_
  exact c8_check_b4 jN _ _ _
set_option maxRecDepth 20000 in
theorem c8_count (a1 : Int32) (μ : JMu) : ∀ b, f8_count a1 μ = some b → JC m8_count 4 cPl [.ref 0, .int (a1)] μ (some (.int b.1), b.2) := by
  refine JC_of (emb := (fun b : Int32 × JMu => (some (.int b.1), b.2))) (L0 := [some (.ref 0), some (.int (a1))]) sm8_count (Nat.le_of_ble_eq_true rfl) rfl ?_
  unfold f8_count
  refine J_iload_n dX8_count_0 rfl ?_
  refine JF_ite (fun c18 => ?_) (fun c18 => ?_)
  · refine J_tabIn (0 : Int32) dX8_count_1 (tgt := 60)  c18 (by decide) (by decide) rfl (by decide) ?_
    refine J_aload_n dX8_count_60 rfl ?_
    refine J_getR dX8_count_61 wX8_12 rfl jo_cPl_0 jr_0_0 ?_
    refine J_getI dX8_count_64 wX8_191 rfl jo_cPl_1 ?_
    exact J_iret dX8_count_67 rfl rfl
  · refine JF_ite (fun c19 => ?_) (fun c19 => ?_)
    · refine J_tabIn (1 : Int32) dX8_count_1 (tgt := 68)  c19 (by decide) (by decide) rfl (by decide) ?_
      refine J_aload_n dX8_count_68 rfl ?_
      refine J_getR dX8_count_69 wX8_12 rfl jo_cPl_0 jr_0_0 ?_
      refine J_getI dX8_count_72 wX8_63 rfl jo_cPl_1 ?_
      exact J_iret dX8_count_75 rfl rfl
    · refine JF_ite (fun c20 => ?_) (fun c20 => ?_)
      · refine J_tabIn (2 : Int32) dX8_count_1 (tgt := 76)  c20 (by decide) (by decide) rfl (by decide) ?_
        refine J_aload_n dX8_count_76 rfl ?_
        refine J_getR dX8_count_77 wX8_12 rfl jo_cPl_0 jr_0_0 ?_
        refine J_getI dX8_count_80 wX8_63 rfl jo_cPl_1 ?_
        refine J_bipush dX8_count_83 (v := (16 : Int32)) rfl ?_
        refine J_irem dX8_count_85 (by decide) ?_
        exact J_iret dX8_count_86 rfl rfl
      · refine JF_ite (fun c21 => ?_) (fun c21 => ?_)
        · refine J_tabIn (3 : Int32) dX8_count_1 (tgt := 87)  c21 (by decide) (by decide) rfl (by decide) ?_
          refine J_aload_n dX8_count_87 rfl ?_
          refine J_getR dX8_count_88 wX8_12 rfl jo_cPl_0 jr_0_0 ?_
          refine J_getI dX8_count_91 wX8_79 rfl jo_cPl_1 ?_
          exact J_iret dX8_count_94 rfl rfl
        · refine JF_ite (fun c22 => ?_) (fun c22 => ?_)
          · refine J_tabIn (4 : Int32) dX8_count_1 (tgt := 95)  c22 (by decide) (by decide) rfl (by decide) ?_
            refine J_aload_n dX8_count_95 rfl ?_
            refine J_getR dX8_count_96 wX8_12 rfl jo_cPl_0 jr_0_0 ?_
            refine J_iconst dX8_count_99 (v := (-1 : Int32)) rfl ?_
            refine J_callV_i (M' := m0_heldByOthers) (as := [_]) dX8_count_100 lX8_208 sm0_heldByOthers sm0_heldByOthers_w jo_cPl_1 hci_X0 (by decide) rfl (Nat.le_of_ble_eq_true rfl) (c0_heldByOthers _ _ _) (fun r23 => ?_)
            refine J_callS_i (M' := mj6_bitCount_0f7a4) (as := [_]) dX8_count_103 lX8_197 smj6_bitCount_0f7a4 smj6_bitCount_0f7a4_w (by decide) rfl (Nat.le_of_ble_eq_true rfl) (cj6_bitCount_0f7a4 cPl _ _) (fun r24 => ?_)
            exact J_iret dX8_count_106 rfl rfl
          · refine JF_ite (fun c25 => ?_) (fun c25 => ?_)
            · refine J_tabIn (5 : Int32) dX8_count_1 (tgt := 107)  c25 (by decide) (by decide) rfl (by decide) ?_
              refine J_aload_n dX8_count_107 rfl ?_
              refine J_getR dX8_count_108 wX8_12 rfl jo_cPl_0 jr_0_0 ?_
              refine J_aload_n dX8_count_111 rfl ?_
              refine J_getR dX8_count_112 wX8_12 rfl jo_cPl_0 jr_0_0 ?_
              refine J_getI dX8_count_115 wX8_63 rfl jo_cPl_1 ?_
              refine J_callV_w (M' := m0_seenIn) (as := [_]) dX8_count_118 lX8_70 sm0_seenIn sm0_seenIn_w jo_cPl_1 hci_X0 (by decide) rfl (Nat.le_of_ble_eq_true rfl) (c0_seenIn _ _ _) (fun r26 => ?_)
              refine J_callS_i (M' := mj6_bitCount_0f7a4) (as := [_]) dX8_count_121 lX8_197 smj6_bitCount_0f7a4 smj6_bitCount_0f7a4_w (by decide) rfl (Nat.le_of_ble_eq_true rfl) (cj6_bitCount_0f7a4 cPl _ _) (fun r27 => ?_)
              exact J_iret dX8_count_124 rfl rfl
            · refine JF_ite (fun c28 => ?_) (fun c28 => ?_)
              · refine J_tabIn (6 : Int32) dX8_count_1 (tgt := 125)  c28 (by decide) (by decide) rfl (by decide) ?_
                refine J_aload_n dX8_count_125 rfl ?_
                refine J_getR dX8_count_126 wX8_12 rfl jo_cPl_0 jr_0_0 ?_
                refine J_callV_i (M' := m0_howManyEvicted) (as := []) dX8_count_129 lX8_135 sm0_howManyEvicted sm0_howManyEvicted_w jo_cPl_1 hci_X0 (by decide) rfl (Nat.le_of_ble_eq_true rfl) (c0_howManyEvicted _ _) (fun r29 => ?_)
                exact J_iret dX8_count_132 rfl rfl
              · refine JF_ite (fun c30 => ?_) (fun c30 => ?_)
                · refine J_tabIn (7 : Int32) dX8_count_1 (tgt := 133)  c30 (by decide) (by decide) rfl (by decide) ?_
                  refine J_aload_n dX8_count_133 rfl ?_
                  refine J_getR dX8_count_134 wX8_12 rfl jo_cPl_0 jr_0_0 ?_
                  refine J_getR dX8_count_137 wX8_139 rfl jo_cPl_1 jr_1_5 ?_
                  refine J_getI dX8_count_140 wX8_143 rfl jo_cPl_9 ?_
                  exact J_iret dX8_count_143 rfl rfl
                · refine JF_ite (fun c31 => ?_) (fun c31 => ?_)
                  · refine J_tabIn (8 : Int32) dX8_count_1 (tgt := 144)  c31 (by decide) (by decide) rfl (by decide) ?_
                    refine J_aload_n dX8_count_144 rfl ?_
                    refine J_getR dX8_count_145 wX8_12 rfl jo_cPl_0 jr_0_0 ?_
                    refine J_getR dX8_count_148 wX8_270 rfl jo_cPl_1 jr_1_6 ?_
                    refine J_getI dX8_count_151 wX8_143 rfl jo_cPl_11 ?_
                    exact J_iret dX8_count_154 rfl rfl
                  · refine JF_ite (fun c32 => ?_) (fun c32 => ?_)
                    · refine J_tabIn (9 : Int32) dX8_count_1 (tgt := 155)  c32 (by decide) (by decide) rfl (by decide) ?_
                      refine J_aload_n dX8_count_155 rfl ?_
                      refine J_getR dX8_count_156 wX8_32 rfl jo_cPl_0 jr_0_4 ?_
                      refine J_getR dX8_count_159 wX8_242 rfl jo_cPl_66 jr_66_0 ?_
                      refine J_getI dX8_count_162 wX8_143 rfl jo_cPl_67 ?_
                      exact J_iret dX8_count_165 rfl rfl
                    · refine JF_ite (fun c33 => ?_) (fun c33 => ?_)
                      · refine J_tabIn (10 : Int32) dX8_count_1 (tgt := 166)  c33 (by decide) (by decide) rfl (by decide) ?_
                        refine J_aload_n dX8_count_166 rfl ?_
                        refine J_getR dX8_count_167 wX8_12 rfl jo_cPl_0 jr_0_0 ?_
                        refine J_getI dX8_count_170 wX8_235 rfl jo_cPl_1 ?_
                        exact J_iret dX8_count_173 rfl rfl
                      · refine J_tabOut dX8_count_1 (tgt := 174) (by have z0 := lv_neT c18 (k := (0 : Int32)) (a := 0) rfl; have z1 := lv_neT c19 (k := (1 : Int32)) (a := 1) rfl; have z2 := lv_neT c20 (k := (2 : Int32)) (a := 2) rfl; have z3 := lv_neT c21 (k := (3 : Int32)) (a := 3) rfl; have z4 := lv_neT c22 (k := (4 : Int32)) (a := 4) rfl; have z5 := lv_neT c25 (k := (5 : Int32)) (a := 5) rfl; have z6 := lv_neT c28 (k := (6 : Int32)) (a := 6) rfl; have z7 := lv_neT c30 (k := (7 : Int32)) (a := 7) rfl; have z8 := lv_neT c31 (k := (8 : Int32)) (a := 8) rfl; have z9 := lv_neT c32 (k := (9 : Int32)) (a := 9) rfl; have z10 := lv_neT c33 (k := (10 : Int32)) (a := 10) rfl; omega) (by decide) ?_
                        refine J_aload_n dX8_count_174 rfl ?_
                        refine J_ldc dX8_count_175 kX8_58 ?_
                        refine J_callV_w (M' := m8_fail) (as := [_]) dX8_count_177 lX8_59 sm8_fail sm8_fail_w jo_cPl_0 hci_X8 (by decide) rfl (Nat.le_of_ble_eq_true rfl) (c8_fail _ _) (fun r34 => ?_)
                        exact J_iret dX8_count_180 rfl rfl
set_option maxRecDepth 20000 in
theorem c8_told (a1 : Int32) (μ : JMu) : ∀ b, f8_told a1 μ = some b → JC m8_told 1 cPl [.ref 0, .int (a1)] μ (some (.int b.1), b.2) := by
  refine JC_of (emb := (fun b : Int32 × JMu => (some (.int b.1), b.2))) (L0 := [some (.ref 0), some (.int (a1))]) sm8_told (Nat.le_of_ble_eq_true rfl) rfl ?_
  unfold f8_told
  refine J_iload_n dX8_told_0 rfl ?_
  refine J_iconst dX8_told_1 (v := (1 : Int32)) rfl ?_
  refine J_aload_n dX8_told_2 rfl ?_
  refine J_getR dX8_told_3 wX8_49 rfl jo_cPl_0 jr_0_7 ?_
  refine J_alen dX8_told_6 ji_cPl_85 jl_85 rfl ?_
  refine J_iconst dX8_told_7 (v := (1 : Int32)) rfl ?_
  refine J_isub dX8_told_8 ?_
  refine J_callS_i (M' := m8_isOutside) (as := [_, _, _]) dX8_told_9 lX8_54 sm8_isOutside sm8_isOutside_w (by decide) rfl (Nat.le_of_ble_eq_true rfl) (c8_isOutside _ _ _ _) (fun r5 => ?_)
  refine J_if_eq dX8_told_12 (tgt := 22) (by decide) (fun c6 => ?_) (fun c6 => ?_)
  · refine J_aload_n dX8_told_22 rfl ?_
    refine J_getR dX8_told_23 wX8_49 rfl jo_cPl_0 jr_0_7 ?_
    refine J_iload_n dX8_told_26 rfl ?_
    refine JF_chk (fun c7 => ?_)
    refine J_iald dX8_told_27 ji_cPl_85 jl_85 (jin_spec c7) rfl ?_
    exact J_iret dX8_told_28 rfl rfl
  · refine J_aload_n dX8_told_15 rfl ?_
    refine J_ldc dX8_told_16 kX8_58 ?_
    refine J_callV_w (M' := m8_fail) (as := [_]) dX8_told_18 lX8_59 sm8_fail sm8_fail_w jo_cPl_0 hci_X8 (by decide) rfl (Nat.le_of_ble_eq_true rfl) (c8_fail _ _) (fun r8 => ?_)
    exact J_iret dX8_told_21 rfl rfl

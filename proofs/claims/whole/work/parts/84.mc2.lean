set_option maxRecDepth 20000 in
theorem c9_image (μ : JMu) : ∀ b, f9_image  μ = some b → JC m9_image 1 mPl [.ref 86] μ (some (.int b.1), b.2) := by
  refine JC_of (emb := (fun b : Int32 × JMu => (some (.int b.1), b.2))) (L0 := [some (.ref 86)]) sm9_image (Nat.le_of_ble_eq_true rfl) rfl ?_
  unfold f9_image
  refine J_aload_n dX9_image_0 rfl ?_
  refine J_getR dX9_image_1 wX9_9 rfl jo_mPl_86 jr_86_0 ?_
  refine J_aload_n dX9_image_4 rfl ?_
  refine J_getR dX9_image_5 wX9_13 rfl jo_mPl_86 jr_86_1 ?_
  refine J_callS_v (M' := m9_copy) (as := [_, _]) dX9_image_8 lX9_72 sm9_copy sm9_copy_w (by decide) rfl (Nat.le_of_ble_eq_true rfl) (c9_copy _ _ _) (fun r2 => ?_)
  refine J_aload_n dX9_image_11 rfl ?_
  refine J_dup dX9_image_12 rfl ?_
  refine J_getI dX9_image_13 wX9_326 rfl jo_mPl_86 ?_
  refine J_iconst dX9_image_16 (v := (1 : Int32)) rfl ?_
  refine J_iadd dX9_image_17 ?_
  refine J_putI dX9_image_18 wX9_326 rfl jo_mPl_86 ?_
  refine J_aload_n dX9_image_21 rfl ?_
  refine J_getI dX9_image_22 wX9_326 rfl jo_mPl_86 ?_
  exact J_iret dX9_image_25 rfl rfl
set_option maxRecDepth 20000 in
theorem c9_restore (μ : JMu) : ∀ b, f9_restore  μ = some b → JC m9_restore 1 mPl [.ref 86] μ (some (.int b.1), b.2) := by
  refine JC_of (emb := (fun b : Int32 × JMu => (some (.int b.1), b.2))) (L0 := [some (.ref 86)]) sm9_restore (Nat.le_of_ble_eq_true rfl) rfl ?_
  unfold f9_restore
  refine J_aload_n dX9_restore_0 rfl ?_
  refine J_getI dX9_restore_1 wX9_326 rfl jo_mPl_86 ?_
  refine J_if_ne dX9_restore_4 (tgt := 15) (by decide) (fun c5 => ?_) (fun c5 => ?_)
  · refine J_aload_n dX9_restore_7 rfl ?_
    refine J_ldcw dX9_restore_8 kX9_268 ?_
    refine J_callV_w (M' := m9_finding) (as := [_]) dX9_restore_11 lX9_81 sm9_finding sm9_finding_w jo_mPl_86 hci_X9 (by decide) rfl (Nat.le_of_ble_eq_true rfl) (c9_finding _ _) (fun r8 => ?_)
    exact J_iret dX9_restore_14 rfl rfl
  · refine J_aload_n dX9_restore_15 rfl ?_
    refine J_getR dX9_restore_16 wX9_13 rfl jo_mPl_86 jr_86_1 ?_
    refine J_aload_n dX9_restore_19 rfl ?_
    refine J_getR dX9_restore_20 wX9_9 rfl jo_mPl_86 jr_86_0 ?_
    refine J_callS_v (M' := m9_copy) (as := [_, _]) dX9_restore_23 lX9_72 sm9_copy sm9_copy_w (by decide) rfl (Nat.le_of_ble_eq_true rfl) (c9_copy _ _ _) (fun r6 => ?_)
    refine J_aload_n dX9_restore_26 rfl ?_
    refine J_getR dX9_restore_27 wX9_9 rfl jo_mPl_86 jr_86_0 ?_
    refine J_iconst dX9_restore_30 (v := (0 : Int32)) rfl ?_
    refine J_iald dX9_restore_31 ji_mPl_87 jl_87 (jin_spec (by decide)) (j := 0) rfl ?_
    exact J_iret dX9_restore_32 rfl rfl
set_option maxRecDepth 20000 in
theorem c9_tell (a1 : Int32) (μ : JMu) : ∀ b, f9_tell a1 μ = some b → JC m9_tell 1 mPl [.ref 86, .int (a1)] μ (some (.int b.1), b.2) := by
  refine JC_of (emb := (fun b : Int32 × JMu => (some (.int b.1), b.2))) (L0 := [some (.ref 86), some (.int (a1))]) sm9_tell (Nat.le_of_ble_eq_true rfl) rfl ?_
  unfold f9_tell
  refine J_aload_n dX9_tell_0 rfl ?_
  refine J_getR dX9_tell_1 wX9_9 rfl jo_mPl_86 jr_86_0 ?_
  refine J_iconst dX9_tell_4 (v := (4 : Int32)) rfl ?_
  refine J_iald dX9_tell_5 ji_mPl_87 jl_87 (jin_spec (by decide)) (j := 4) rfl ?_
  refine J_bipush dX9_tell_6 (v := (20 : Int32)) rfl ?_
  refine J_icmp_ne dX9_tell_8 (tgt := 18) (by decide) (fun c9 => ?_) (fun c9 => ?_)
  · refine J_aload_n dX9_tell_11 rfl ?_
    refine J_ldc dX9_tell_12 kX9_85 ?_
    refine J_callV_w (M' := m9_finding) (as := [_]) dX9_tell_14 lX9_81 sm9_finding sm9_finding_w jo_mPl_86 hci_X9 (by decide) rfl (Nat.le_of_ble_eq_true rfl) (c9_finding _ _) (fun r15 => ?_)
    exact J_iret dX9_tell_17 rfl rfl
  · refine J_aload_n dX9_tell_18 rfl ?_
    refine J_getR dX9_tell_19 wX9_9 rfl jo_mPl_86 jr_86_0 ?_
    refine J_bipush dX9_tell_22 (v := (86 : Int32)) rfl ?_
    refine J_aload_n dX9_tell_24 rfl ?_
    refine J_getR dX9_tell_25 wX9_9 rfl jo_mPl_86 jr_86_0 ?_
    refine J_iconst dX9_tell_28 (v := (4 : Int32)) rfl ?_
    refine J_iald dX9_tell_29 ji_mPl_87 jl_87 (jin_spec (by decide)) (j := 4) rfl ?_
    refine J_iadd dX9_tell_30 ?_
    refine J_iload_n dX9_tell_31 rfl ?_
    refine JF_chk (fun c13 => ?_)
    refine J_iast dX9_tell_32 ji_mPl_87 jl_87 (jin_spec c13) rfl ?_
    refine J_aload_n dX9_tell_33 rfl ?_
    refine J_getR dX9_tell_34 wX9_9 rfl jo_mPl_86 jr_86_0 ?_
    refine J_iconst dX9_tell_37 (v := (4 : Int32)) rfl ?_
    refine J_dup2 dX9_tell_38 rfl rfl ?_
    refine J_iald dX9_tell_39 ji_mPl_87 jl_87 (jin_spec (by decide)) (j := 4) rfl ?_
    refine J_iconst dX9_tell_40 (v := (1 : Int32)) rfl ?_
    refine J_iadd dX9_tell_41 ?_
    refine J_iast dX9_tell_42 ji_mPl_87 jl_87 (jin_spec (by decide)) (j := 4) rfl ?_
    refine J_aload_n dX9_tell_43 rfl ?_
    refine J_getR dX9_tell_44 wX9_9 rfl jo_mPl_86 jr_86_0 ?_
    refine J_iconst dX9_tell_47 (v := (4 : Int32)) rfl ?_
    refine J_iald dX9_tell_48 ji_mPl_87 jl_87 (jin_spec (by decide)) (j := 4) rfl ?_
    exact J_iret dX9_tell_49 rfl rfl
set_option maxRecDepth 20000 in
theorem c9_check_b64 (k26 : Int32 → Int32 → Int32 → Int32 → JMu → Option (Int32 × JMu)) (hk26 : ∀ (v1 : Int32) (v2 : Int32) (v3 : Int32) (v4 : Int32) (μ : JMu), JF m9_check 5 mPl (fun b : Int32 × JMu => (some (.int b.1), b.2)) 26 [some (.ref 86), some (.int (v1)), some (.int (v2)), some (.int (v3)), some (.int (v4))] [] μ (k26 v1 v2 v3 v4 μ)) (v1 : Int32) (v2 : Int32) (v4 : Int32) (s0 : Int32) (μ : JMu) : JF m9_check 5 mPl (fun b : Int32 × JMu => (some (.int b.1), b.2)) 64 [some (.ref 86), some (.int (v1)), some (.int (v2)), none, some (.int (v4))] [.int (s0)] μ (f9_check_b64 k26 v1 v2 v4 s0 μ) := by
  unfold f9_check_b64
  refine J_istore_n dX9_check_64  (by decide) rfl ?_
  refine J_aload_n dX9_check_65 rfl ?_
  refine J_getR dX9_check_66 wX9_9 rfl jo_mPl_86 jr_86_0 ?_
  refine J_iconst dX9_check_69 (v := (0 : Int32)) rfl ?_
  refine J_dup2 dX9_check_70 rfl rfl ?_
  refine J_iald dX9_check_71 ji_mPl_87 jl_87 (jin_spec (by decide)) (j := 0) rfl ?_
  refine J_iconst dX9_check_72 (v := (1 : Int32)) rfl ?_
  refine J_iadd dX9_check_73 ?_
  refine J_iast dX9_check_74 ji_mPl_87 jl_87 (jin_spec (by decide)) (j := 0) rfl ?_
  refine J_iinc dX9_check_75 rfl (c0 := (1 : Int32)) rfl (by decide) rfl ?_
  refine J_goto dX9_check_78 (tgt := 26) (by decide) ?_
  exact hk26 _ _ _ _ _
set_option maxRecDepth 20000 in
theorem c9_check_b81 (v2 : Int32) (v3 : Int32) (μ : JMu) : JF m9_check 5 mPl (fun b : Int32 × JMu => (some (.int b.1), b.2)) 81 [some (.ref 86), none, some (.int (v2)), some (.int (v3)), none] [] μ (f9_check_b81 v2 v3 μ) := by
  unfold f9_check_b81
  refine J_aload_n dX9_check_81 rfl ?_
  refine J_getR dX9_check_82 wX9_9 rfl jo_mPl_86 jr_86_0 ?_
  refine J_iconst dX9_check_85 (v := (0 : Int32)) rfl ?_
  refine J_iload_n dX9_check_86 rfl ?_
  refine J_iast dX9_check_87 ji_mPl_87 jl_87 (jin_spec (by decide)) (j := 0) rfl ?_
  refine J_iload_n dX9_check_88 rfl ?_
  exact J_iret dX9_check_89 rfl rfl
set_option maxRecDepth 20000 in
theorem c9_check_b26 (n : Nat) : ∀ (v1 : Int32) (v2 : Int32) (v3 : Int32) (v4 : Int32) (μ : JMu), JF m9_check 5 mPl (fun b : Int32 × JMu => (some (.int b.1), b.2)) 26 [some (.ref 86), some (.int (v1)), some (.int (v2)), some (.int (v3)), some (.int (v4))] [] μ (f9_check_b26 n v1 v2 v3 v4 μ) := by
  induction n with
  | zero => intros; exact JF_none
  | succ n ih =>
    intro v1 v2 v3 v4 μ
    rw [f9_check_b26]
    refine J_iload dX9_check_26 rfl ?_
    refine J_iload_n dX9_check_28 rfl ?_
    refine J_icmp_ge dX9_check_29 (tgt := 81) (by decide) (fun c16 => ?_) (fun c16 => ?_)
    · refine JF_drop [1, 4] ?_
      exact c9_check_b81 _ _ _
    · refine J_iload_n dX9_check_32 rfl ?_
      refine J_if_ne dX9_check_33 (tgt := 81) (by decide) (fun c17 => ?_) (fun c17 => ?_)
      · refine J_aload_n dX9_check_36 rfl ?_
        refine J_getR dX9_check_37 wX9_9 rfl jo_mPl_86 jr_86_0 ?_
        refine J_bipush dX9_check_40 (v := (86 : Int32)) rfl ?_
        refine J_iload dX9_check_42 rfl ?_
        refine J_iadd dX9_check_44 ?_
        refine JF_chk (fun c21 => ?_)
        refine J_iald dX9_check_45 ji_mPl_87 jl_87 (jin_spec c21) rfl ?_
        refine J_aload_n dX9_check_46 rfl ?_
        refine J_callV_w (M' := m9_seenNow) (as := []) dX9_check_47 lX9_195 sm9_seenNow sm9_seenNow_w jo_mPl_86 hci_X9 (by decide) rfl (Nat.le_of_ble_eq_true rfl) (c9_seenNow  _) (fun r18 => ?_)
        refine J_callS_i (M' := m9_bits) (as := [_]) dX9_check_50 lX9_189 sm9_bits sm9_bits_w (by decide) rfl (Nat.le_of_ble_eq_true rfl) (c9_bits _ _) (fun r19 => ?_)
        refine J_icmp_ne dX9_check_53 (tgt := 60) (by decide) (fun c20 => ?_) (fun c20 => ?_)
        · refine J_iconst dX9_check_56 (v := (0 : Int32)) rfl ?_
          refine J_goto dX9_check_57 (tgt := 64) (by decide) ?_
          refine JF_drop [3] ?_
          exact c9_check_b64 _ ih _ _ _ _ _
        · refine J_iconst dX9_check_60 (v := (1 : Int32)) rfl ?_
          refine J_iload dX9_check_61 rfl ?_
          refine J_iadd dX9_check_63 ?_
          refine JF_drop [3] ?_
          exact c9_check_b64 _ ih _ _ _ _ _
      · refine JF_drop [1, 4] ?_
        exact c9_check_b81 _ _ _
set_option maxRecDepth 20000 in
theorem c9_check (μ : JMu) : ∀ b, f9_check  μ = some b → JC m9_check 5 mPl [.ref 86] μ (some (.int b.1), b.2) := by
  refine JC_of (emb := (fun b : Int32 × JMu => (some (.int b.1), b.2))) (L0 := [some (.ref 86), none, none, none, none]) sm9_check (Nat.le_of_ble_eq_true rfl) rfl ?_
  unfold f9_check
  refine J_aload_n dX9_check_0 rfl ?_
  refine J_getR dX9_check_1 wX9_9 rfl jo_mPl_86 jr_86_0 ?_
  refine J_iconst dX9_check_4 (v := (4 : Int32)) rfl ?_
  refine J_iald dX9_check_5 ji_mPl_87 jl_87 (jin_spec (by decide)) (j := 4) rfl ?_
  refine J_istore_n dX9_check_6  (by decide) rfl ?_
  refine J_aload_n dX9_check_7 rfl ?_
  refine J_getR dX9_check_8 wX9_9 rfl jo_mPl_86 jr_86_0 ?_
  refine J_iconst dX9_check_11 (v := (4 : Int32)) rfl ?_
  refine J_iconst dX9_check_12 (v := (0 : Int32)) rfl ?_
  refine J_iast dX9_check_13 ji_mPl_87 jl_87 (jin_spec (by decide)) (j := 4) rfl ?_
  refine J_aload_n dX9_check_14 rfl ?_
  refine J_getR dX9_check_15 wX9_9 rfl jo_mPl_86 jr_86_0 ?_
  refine J_iconst dX9_check_18 (v := (0 : Int32)) rfl ?_
  refine J_iald dX9_check_19 ji_mPl_87 jl_87 (jin_spec (by decide)) (j := 0) rfl ?_
  refine J_istore_n dX9_check_20  (by decide) rfl ?_
  refine J_iconst dX9_check_21 (v := (0 : Int32)) rfl ?_
  refine J_istore_n dX9_check_22  (by decide) rfl ?_
  refine J_iconst dX9_check_23 (v := (0 : Int32)) rfl ?_
  refine J_istore dX9_check_24  (by decide) rfl ?_
  exact c9_check_b26 jN _ _ _ _ _
set_option maxRecDepth 20000 in
theorem c9_heldNow_b4 (μ : JMu) (n : Nat) : ∀ (v1 : Int32) (v2 : Int32), JF m9_heldNow 2 mPl (fun b : Int32 => (some (.int b), μ)) 4 [some (.ref 86), some (.int (v1)), some (.int (v2))] [] μ (f9_heldNow_b4 n v1 v2 μ) := by
  induction n with
  | zero => intros; exact JF_none
  | succ n ih =>
    intro v1 v2
    rw [f9_heldNow_b4]
    refine J_iload_n dX9_heldNow_4 rfl ?_
    refine J_aload_n dX9_heldNow_5 rfl ?_
    refine J_getR dX9_heldNow_6 wX9_9 rfl jo_mPl_86 jr_86_0 ?_
    refine J_iconst dX9_heldNow_9 (v := (1 : Int32)) rfl ?_
    refine J_iald dX9_heldNow_10 ji_mPl_87 jl_87 (jin_spec (by decide)) (j := 1) rfl ?_
    refine J_icmp_ge dX9_heldNow_11 (tgt := 29) (by decide) (fun c4 => ?_) (fun c4 => ?_)
    · refine J_iload_n dX9_heldNow_29 rfl ?_
      exact J_iret dX9_heldNow_30 rfl rfl
    · refine J_iload_n dX9_heldNow_14 rfl ?_
      refine J_aload_n dX9_heldNow_15 rfl ?_
      refine J_iload_n dX9_heldNow_16 rfl ?_
      refine J_iconst dX9_heldNow_17 (v := (2 : Int32)) rfl ?_
      refine J_callV_i (M' := m9_tenantIs) (as := [_, _]) dX9_heldNow_18 lX9_179 sm9_tenantIs sm9_tenantIs_w jo_mPl_86 hci_X9 (by decide) rfl (Nat.le_of_ble_eq_true rfl) (c9_tenantIs _ _ _) (fun r5 => ?_)
      refine J_ior dX9_heldNow_21 ?_
      refine J_istore_n dX9_heldNow_22  (by decide) rfl ?_
      refine J_iinc dX9_heldNow_23 rfl (c0 := (1 : Int32)) rfl (by decide) rfl ?_
      refine J_goto dX9_heldNow_26 (tgt := 4) (by decide) ?_
      exact ih _ _
set_option maxRecDepth 20000 in
theorem c9_heldNow (μ : JMu) : ∀ b, f9_heldNow  μ = some b → JC m9_heldNow 2 mPl [.ref 86] μ (some (.int b), μ) := by
  refine JC_of (emb := (fun b : Int32 => (some (.int b), μ))) (L0 := [some (.ref 86), none, none]) sm9_heldNow (Nat.le_of_ble_eq_true rfl) rfl ?_
  unfold f9_heldNow
  refine J_iconst dX9_heldNow_0 (v := (0 : Int32)) rfl ?_
  refine J_istore_n dX9_heldNow_1  (by decide) rfl ?_
  refine J_iconst dX9_heldNow_2 (v := (0 : Int32)) rfl ?_
  refine J_istore_n dX9_heldNow_3  (by decide) rfl ?_
  exact c9_heldNow_b4 μ jN _ _
set_option maxRecDepth 20000 in
theorem c9_count (a1 : Int32) (μ : JMu) : ∀ b, f9_count a1 μ = some b → JC m9_count 5 mPl [.ref 86, .int (a1)] μ (some (.int b.1), b.2) := by
  refine JC_of (emb := (fun b : Int32 × JMu => (some (.int b.1), b.2))) (L0 := [some (.ref 86), some (.int (a1))]) sm9_count (Nat.le_of_ble_eq_true rfl) rfl ?_
  unfold f9_count
  refine J_iload_n dX9_count_0 rfl ?_
  refine JF_ite (fun c25 => ?_) (fun c25 => ?_)
  · refine J_tabIn (0 : Int32) dX9_count_1 (tgt := 60)  c25 (by decide) (by decide) rfl (by decide) ?_
    refine J_aload_n dX9_count_60 rfl ?_
    refine J_getR dX9_count_61 wX9_9 rfl jo_mPl_86 jr_86_0 ?_
    refine J_iconst dX9_count_64 (v := (1 : Int32)) rfl ?_
    refine J_iald dX9_count_65 ji_mPl_87 jl_87 (jin_spec (by decide)) (j := 1) rfl ?_
    exact J_iret dX9_count_66 rfl rfl
  · refine JF_ite (fun c27 => ?_) (fun c27 => ?_)
    · refine J_tabIn (1 : Int32) dX9_count_1 (tgt := 67)  c27 (by decide) (by decide) rfl (by decide) ?_
      refine J_aload_n dX9_count_67 rfl ?_
      refine J_getR dX9_count_68 wX9_9 rfl jo_mPl_86 jr_86_0 ?_
      refine J_iconst dX9_count_71 (v := (0 : Int32)) rfl ?_
      refine J_iald dX9_count_72 ji_mPl_87 jl_87 (jin_spec (by decide)) (j := 0) rfl ?_
      exact J_iret dX9_count_73 rfl rfl
    · refine JF_ite (fun c29 => ?_) (fun c29 => ?_)
      · refine J_tabIn (2 : Int32) dX9_count_1 (tgt := 74)  c29 (by decide) (by decide) rfl (by decide) ?_
        refine J_aload_n dX9_count_74 rfl ?_
        refine J_callV_i (M' := m9_phase) (as := []) dX9_count_75 lX9_166 sm9_phase sm9_phase_w jo_mPl_86 hci_X9 (by decide) rfl (Nat.le_of_ble_eq_true rfl) (c9_phase  _) (fun r30 => ?_)
        exact J_iret dX9_count_78 rfl rfl
      · refine JF_ite (fun c31 => ?_) (fun c31 => ?_)
        · refine J_tabIn (3 : Int32) dX9_count_1 (tgt := 79)  c31 (by decide) (by decide) rfl (by decide) ?_
          refine J_aload_n dX9_count_79 rfl ?_
          refine J_getR dX9_count_80 wX9_9 rfl jo_mPl_86 jr_86_0 ?_
          refine J_iconst dX9_count_83 (v := (2 : Int32)) rfl ?_
          refine J_iald dX9_count_84 ji_mPl_87 jl_87 (jin_spec (by decide)) (j := 2) rfl ?_
          exact J_iret dX9_count_85 rfl rfl
        · refine JF_ite (fun c33 => ?_) (fun c33 => ?_)
          · refine J_tabIn (4 : Int32) dX9_count_1 (tgt := 86)  c33 (by decide) (by decide) rfl (by decide) ?_
            refine J_aload_n dX9_count_86 rfl ?_
            refine J_callV_i (M' := m9_heldNow) (as := []) dX9_count_87 lX9_329 sm9_heldNow sm9_heldNow_w jo_mPl_86 hci_X9 (by decide) rfl (Nat.le_of_ble_eq_true rfl) (c9_heldNow  _) (fun r34 => ?_)
            refine J_callS_i (M' := m9_bits) (as := [_]) dX9_count_90 lX9_189 sm9_bits sm9_bits_w (by decide) rfl (Nat.le_of_ble_eq_true rfl) (c9_bits _ _) (fun r35 => ?_)
            exact J_iret dX9_count_93 rfl rfl
          · refine JF_ite (fun c36 => ?_) (fun c36 => ?_)
            · refine J_tabIn (5 : Int32) dX9_count_1 (tgt := 94)  c36 (by decide) (by decide) rfl (by decide) ?_
              refine J_aload_n dX9_count_94 rfl ?_
              refine J_callV_w (M' := m9_seenNow) (as := []) dX9_count_95 lX9_195 sm9_seenNow sm9_seenNow_w jo_mPl_86 hci_X9 (by decide) rfl (Nat.le_of_ble_eq_true rfl) (c9_seenNow  _) (fun r37 => ?_)
              refine J_callS_i (M' := m9_bits) (as := [_]) dX9_count_98 lX9_189 sm9_bits sm9_bits_w (by decide) rfl (Nat.le_of_ble_eq_true rfl) (c9_bits _ _) (fun r38 => ?_)
              exact J_iret dX9_count_101 rfl rfl
            · refine JF_ite (fun c39 => ?_) (fun c39 => ?_)
              · refine J_tabIn (6 : Int32) dX9_count_1 (tgt := 102)  c39 (by decide) (by decide) rfl (by decide) ?_
                refine J_aload_n dX9_count_102 rfl ?_
                refine J_callV_i (M' := m9_manyOut) (as := []) dX9_count_103 lX9_243 sm9_manyOut sm9_manyOut_w jo_mPl_86 hci_X9 (by decide) rfl (Nat.le_of_ble_eq_true rfl) (c9_manyOut  _) (fun r40 => ?_)
                exact J_iret dX9_count_106 rfl rfl
              · refine JF_ite (fun c41 => ?_) (fun c41 => ?_)
                · refine J_tabIn (7 : Int32) dX9_count_1 (tgt := 107)  c41 (by decide) (by decide) rfl (by decide) ?_
                  refine J_aload_n dX9_count_107 rfl ?_
                  refine J_getR dX9_count_108 wX9_9 rfl jo_mPl_86 jr_86_0 ?_
                  refine J_iconst dX9_count_111 (v := (3 : Int32)) rfl ?_
                  refine J_iald dX9_count_112 ji_mPl_87 jl_87 (jin_spec (by decide)) (j := 3) rfl ?_
                  exact J_iret dX9_count_113 rfl rfl
                · refine JF_ite (fun c43 => ?_) (fun c43 => ?_)
                  · refine J_tabIn (8 : Int32) dX9_count_1 (tgt := 114)  c43 (by decide) (by decide) rfl (by decide) ?_
                    refine J_aload_n dX9_count_114 rfl ?_
                    refine J_getR dX9_count_115 wX9_9 rfl jo_mPl_86 jr_86_0 ?_
                    refine J_iconst dX9_count_118 (v := (4 : Int32)) rfl ?_
                    refine J_iald dX9_count_119 ji_mPl_87 jl_87 (jin_spec (by decide)) (j := 4) rfl ?_
                    exact J_iret dX9_count_120 rfl rfl
                  · refine JF_ite (fun c45 => ?_) (fun c45 => ?_)
                    · refine J_tabIn (9 : Int32) dX9_count_1 (tgt := 121)  c45 (by decide) (by decide) rfl (by decide) ?_
                      refine J_aload_n dX9_count_121 rfl ?_
                      refine J_getI dX9_count_122 wX9_296 rfl jo_mPl_86 ?_
                      exact J_iret dX9_count_125 rfl rfl
                    · refine JF_ite (fun c46 => ?_) (fun c46 => ?_)
                      · refine J_tabIn (10 : Int32) dX9_count_1 (tgt := 126)  c46 (by decide) (by decide) rfl (by decide) ?_
                        refine J_aload_n dX9_count_126 rfl ?_
                        refine J_getR dX9_count_127 wX9_9 rfl jo_mPl_86 jr_86_0 ?_
                        refine J_iconst dX9_count_130 (v := (5 : Int32)) rfl ?_
                        refine J_iald dX9_count_131 ji_mPl_87 jl_87 (jin_spec (by decide)) (j := 5) rfl ?_
                        exact J_iret dX9_count_132 rfl rfl
                      · refine J_tabOut dX9_count_1 (tgt := 133) (by have z0 := lv_neT c25 (k := (0 : Int32)) (a := 0) rfl; have z1 := lv_neT c27 (k := (1 : Int32)) (a := 1) rfl; have z2 := lv_neT c29 (k := (2 : Int32)) (a := 2) rfl; have z3 := lv_neT c31 (k := (3 : Int32)) (a := 3) rfl; have z4 := lv_neT c33 (k := (4 : Int32)) (a := 4) rfl; have z5 := lv_neT c36 (k := (5 : Int32)) (a := 5) rfl; have z6 := lv_neT c39 (k := (6 : Int32)) (a := 6) rfl; have z7 := lv_neT c41 (k := (7 : Int32)) (a := 7) rfl; have z8 := lv_neT c43 (k := (8 : Int32)) (a := 8) rfl; have z9 := lv_neT c45 (k := (9 : Int32)) (a := 9) rfl; have z10 := lv_neT c46 (k := (10 : Int32)) (a := 10) rfl; omega) (by decide) ?_
                        refine J_aload_n dX9_count_133 rfl ?_
                        refine J_ldc dX9_count_134 kX9_80 ?_
                        refine J_callV_w (M' := m9_finding) (as := [_]) dX9_count_136 lX9_81 sm9_finding sm9_finding_w jo_mPl_86 hci_X9 (by decide) rfl (Nat.le_of_ble_eq_true rfl) (c9_finding _ _) (fun r48 => ?_)
                        exact J_iret dX9_count_139 rfl rfl
set_option maxRecDepth 20000 in
theorem c9_told (a1 : Int32) (μ : JMu) : ∀ b, f9_told a1 μ = some b → JC m9_told 1 mPl [.ref 86, .int (a1)] μ (some (.int b.1), b.2) := by
  refine JC_of (emb := (fun b : Int32 × JMu => (some (.int b.1), b.2))) (L0 := [some (.ref 86), some (.int (a1))]) sm9_told (Nat.le_of_ble_eq_true rfl) rfl ?_
  unfold f9_told
  refine J_iload_n dX9_told_0 rfl ?_
  refine J_iconst dX9_told_1 (v := (1 : Int32)) rfl ?_
  refine J_iconst dX9_told_2 (v := (5 : Int32)) rfl ?_
  refine J_callS_i (M' := m9_within) (as := [_, _, _]) dX9_told_3 lX9_76 sm9_within sm9_within_w (by decide) rfl (Nat.le_of_ble_eq_true rfl) (c9_within _ _ _ _) (fun r5 => ?_)
  refine J_if_eq dX9_told_6 (tgt := 18) (by decide) (fun c6 => ?_) (fun c6 => ?_)
  · refine J_aload_n dX9_told_18 rfl ?_
    refine J_ldc dX9_told_19 kX9_80 ?_
    refine J_callV_w (M' := m9_finding) (as := [_]) dX9_told_21 lX9_81 sm9_finding sm9_finding_w jo_mPl_86 hci_X9 (by decide) rfl (Nat.le_of_ble_eq_true rfl) (c9_finding _ _) (fun r7 => ?_)
    exact J_iret dX9_told_24 rfl rfl
  · refine J_aload_n dX9_told_9 rfl ?_
    refine J_getR dX9_told_10 wX9_19 rfl jo_mPl_86 jr_86_4 ?_
    refine J_iload_n dX9_told_13 rfl ?_
    refine JF_chk (fun c8 => ?_)
    refine J_iald dX9_told_14 ji_mPl_90 jl_90 (jin_spec c8) rfl ?_
    refine J_goto dX9_told_15 (tgt := 24) (by decide) ?_
    exact J_iret dX9_told_24 rfl rfl

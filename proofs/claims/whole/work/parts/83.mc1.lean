set_option maxRecDepth 20000 in
theorem c9_takesByDraws_b46 (s0 : Int32) (s1 : Int32) (s2 : Int32) (μ : JMu) : JF m9_takesByDraws 3 mPl (fun b : JMu => (none, b)) 46 [none, none, none] [.int (s0), .int (s1), .int (s2), .ref 87] μ (f9_takesByDraws_b46 s0 s1 s2 μ) := by
  unfold f9_takesByDraws_b46
  refine J_ior dX9_takesByDraws_46 ?_
  refine JF_chk (fun c10 => ?_)
  refine J_iast dX9_takesByDraws_47 ji_mPl_87 jl_87 (jin_spec c10) rfl ?_
  exact J_vret dX9_takesByDraws_48 rfl rfl
set_option maxRecDepth 20000 in
theorem c9_takesByDraws (μ : JMu) : ∀ b, f9_takesByDraws  μ = some b → JC m9_takesByDraws 3 mPl [.ref 86] μ (none, b) := by
  refine JC_of (emb := (fun b : JMu => (none, b))) (L0 := [some (.ref 86), none, none]) sm9_takesByDraws (Nat.le_of_ble_eq_true rfl) rfl ?_
  unfold f9_takesByDraws
  refine J_aload_n dX9_takesByDraws_0 rfl ?_
  refine J_callV_w (M' := m9_drawn) (as := []) dX9_takesByDraws_1 lX9_259 sm9_drawn sm9_drawn_w jo_mPl_86 hci_X9 (by decide) rfl (Nat.le_of_ble_eq_true rfl) (c9_drawn  _) (fun r11 => ?_)
  refine J_aload_n dX9_takesByDraws_4 rfl ?_
  refine J_getR dX9_takesByDraws_5 wX9_9 rfl jo_mPl_86 jr_86_0 ?_
  refine J_iconst dX9_takesByDraws_8 (v := (1 : Int32)) rfl ?_
  refine J_iald dX9_takesByDraws_9 ji_mPl_87 jl_87 (jin_spec (by decide)) (j := 1) rfl ?_
  refine JF_chk (fun c12 => ?_)
  refine J_irem dX9_takesByDraws_10 c12 ?_
  refine J_istore_n dX9_takesByDraws_11  (by decide) rfl ?_
  refine J_aload_n dX9_takesByDraws_12 rfl ?_
  refine J_callV_w (M' := m9_drawn) (as := []) dX9_takesByDraws_13 lX9_259 sm9_drawn sm9_drawn_w jo_mPl_86 hci_X9 (by decide) rfl (Nat.le_of_ble_eq_true rfl) (c9_drawn  _) (fun r13 => ?_)
  refine J_bipush dX9_takesByDraws_16 (v := (24 : Int32)) rfl ?_
  refine J_irem dX9_takesByDraws_18 (by decide) ?_
  refine J_istore_n dX9_takesByDraws_19  (by decide) rfl ?_
  refine J_aload_n dX9_takesByDraws_20 rfl ?_
  refine J_getR dX9_takesByDraws_21 wX9_9 rfl jo_mPl_86 jr_86_0 ?_
  refine J_iload_n dX9_takesByDraws_24 rfl ?_
  refine J_iconst dX9_takesByDraws_25 (v := (2 : Int32)) rfl ?_
  refine J_callS_i (M' := m9_at) (as := [_, _]) dX9_takesByDraws_26 lX9_204 sm9_at sm9_at_w (by decide) rfl (Nat.le_of_ble_eq_true rfl) (c9_at _ _ _) (fun r14 => ?_)
  refine J_dup2 dX9_takesByDraws_29 rfl rfl ?_
  refine JF_chk (fun c17 => ?_)
  refine J_iald dX9_takesByDraws_30 ji_mPl_87 jl_87 (jin_spec c17) rfl ?_
  refine J_aload_n dX9_takesByDraws_31 rfl ?_
  refine J_iload_n dX9_takesByDraws_32 rfl ?_
  refine J_callV_i (M' := m9_isOut) (as := [_]) dX9_takesByDraws_33 lX9_239 sm9_isOut sm9_isOut_w jo_mPl_86 hci_X9 (by decide) rfl (Nat.le_of_ble_eq_true rfl) (c9_isOut _ _) (fun r15 => ?_)
  refine J_if_eq dX9_takesByDraws_36 (tgt := 43) (by decide) (fun c16 => ?_) (fun c16 => ?_)
  · refine J_iconst dX9_takesByDraws_43 (v := (1 : Int32)) rfl ?_
    refine J_iload_n dX9_takesByDraws_44 rfl ?_
    refine J_ishl dX9_takesByDraws_45 ?_
    refine JF_drop [0, 1, 2] ?_
    exact c9_takesByDraws_b46 _ _ _ _
  · refine J_iconst dX9_takesByDraws_39 (v := (0 : Int32)) rfl ?_
    refine J_goto dX9_takesByDraws_40 (tgt := 46) (by decide) ?_
    refine JF_drop [0, 1, 2] ?_
    exact c9_takesByDraws_b46 _ _ _ _
set_option maxRecDepth 20000 in
theorem c9_loose_b71 (k40 : Int32 → Int32 → JMu → Option (Int32 × JMu)) (hk40 : ∀ (v1 : Int32) (v2 : Int32) (μ : JMu), JF m9_loose 7 mPl (fun b : Int32 × JMu => (some (.int b.1), b.2)) 40 [some (.ref 86), some (.int (v1)), some (.int (v2))] [] μ (k40 v1 v2 μ)) (v1 : Int32) (v2 : Int32) (μ : JMu) : JF m9_loose 7 mPl (fun b : Int32 × JMu => (some (.int b.1), b.2)) 71 [some (.ref 86), some (.int (v1)), some (.int (v2))] [] μ (f9_loose_b71 k40 v1 v2 μ) := by
  unfold f9_loose_b71
  refine J_aload_n dX9_loose_71 rfl ?_
  refine J_callV_v (M' := m9_night) (as := []) dX9_loose_72 lX9_252 sm9_night sm9_night_w jo_mPl_86 hci_X9 (by decide) rfl (Nat.le_of_ble_eq_true rfl) (c9_night  _) (fun r15 => ?_)
  refine J_iinc dX9_loose_75 rfl (c0 := (1 : Int32)) rfl (by decide) rfl ?_
  refine J_goto dX9_loose_78 (tgt := 40) (by decide) ?_
  exact hk40 _ _ _
set_option maxRecDepth 20000 in
theorem c9_loose_b40 (n : Nat) : ∀ (v1 : Int32) (v2 : Int32) (μ : JMu), JF m9_loose 7 mPl (fun b : Int32 × JMu => (some (.int b.1), b.2)) 40 [some (.ref 86), some (.int (v1)), some (.int (v2))] [] μ (f9_loose_b40 n v1 v2 μ) := by
  induction n with
  | zero => intros; exact JF_none
  | succ n ih =>
    intro v1 v2 μ
    rw [f9_loose_b40]
    refine J_iload_n dX9_loose_40 rfl ?_
    refine J_iload_n dX9_loose_41 rfl ?_
    refine J_icmp_ge dX9_loose_42 (tgt := 81) (by decide) (fun c16 => ?_) (fun c16 => ?_)
    · refine J_aload_n dX9_loose_81 rfl ?_
      refine J_callV_i (M' := m9_manyOut) (as := []) dX9_loose_82 lX9_243 sm9_manyOut sm9_manyOut_w jo_mPl_86 hci_X9 (by decide) rfl (Nat.le_of_ble_eq_true rfl) (c9_manyOut  _) (fun r17 => ?_)
      exact J_iret dX9_loose_85 rfl rfl
    · refine J_aload_n dX9_loose_45 rfl ?_
      refine J_getR dX9_loose_46 wX9_9 rfl jo_mPl_86 jr_86_0 ?_
      refine J_iconst dX9_loose_49 (v := (2 : Int32)) rfl ?_
      refine J_aload_n dX9_loose_50 rfl ?_
      refine J_callV_w (M' := m9_drawn) (as := []) dX9_loose_51 lX9_259 sm9_drawn sm9_drawn_w jo_mPl_86 hci_X9 (by decide) rfl (Nat.le_of_ble_eq_true rfl) (c9_drawn  _) (fun r18 => ?_)
      refine J_bipush dX9_loose_54 (v := (10 : Int32)) rfl ?_
      refine J_irem dX9_loose_56 (by decide) ?_
      refine J_iast dX9_loose_57 ji_mPl_87 jl_87 (jin_spec (by decide)) (j := 2) rfl ?_
      refine J_aload_n dX9_loose_58 rfl ?_
      refine J_getR dX9_loose_59 wX9_9 rfl jo_mPl_86 jr_86_0 ?_
      refine J_iconst dX9_loose_62 (v := (1 : Int32)) rfl ?_
      refine J_iald dX9_loose_63 ji_mPl_87 jl_87 (jin_spec (by decide)) (j := 1) rfl ?_
      refine J_if_le dX9_loose_64 (tgt := 71) (by decide) (fun c19 => ?_) (fun c19 => ?_)
      · exact c9_loose_b71 _ ih _ _ _
      · refine J_aload_n dX9_loose_67 rfl ?_
        refine J_callV_v (M' := m9_takesByDraws) (as := []) dX9_loose_68 lX9_262 sm9_takesByDraws sm9_takesByDraws_w jo_mPl_86 hci_X9 (by decide) rfl (Nat.le_of_ble_eq_true rfl) (c9_takesByDraws  _) (fun r20 => ?_)
        exact c9_loose_b71 _ ih _ _ _
set_option maxRecDepth 20000 in
theorem c9_loose (a1 : Int32) (μ : JMu) : ∀ b, f9_loose a1 μ = some b → JC m9_loose 7 mPl [.ref 86, .int (a1)] μ (some (.int b.1), b.2) := by
  refine JC_of (emb := (fun b : Int32 × JMu => (some (.int b.1), b.2))) (L0 := [some (.ref 86), some (.int (a1)), none]) sm9_loose (Nat.le_of_ble_eq_true rfl) rfl ?_
  unfold f9_loose
  refine J_iload_n dX9_loose_0 rfl ?_
  refine J_iconst dX9_loose_1 (v := (1 : Int32)) rfl ?_
  refine J_bipush dX9_loose_2 (v := (40 : Int32)) rfl ?_
  refine J_callS_i (M' := m9_within) (as := [_, _, _]) dX9_loose_4 lX9_76 sm9_within sm9_within_w (by decide) rfl (Nat.le_of_ble_eq_true rfl) (c9_within _ _ _ _) (fun r23 => ?_)
  refine J_if_ne dX9_loose_7 (tgt := 17) (by decide) (fun c24 => ?_) (fun c24 => ?_)
  · refine J_aload_n dX9_loose_10 rfl ?_
    refine J_ldc dX9_loose_11 kX9_80 ?_
    refine J_callV_w (M' := m9_finding) (as := [_]) dX9_loose_13 lX9_81 sm9_finding sm9_finding_w jo_mPl_86 hci_X9 (by decide) rfl (Nat.le_of_ble_eq_true rfl) (c9_finding _ _) (fun r28 => ?_)
    exact J_iret dX9_loose_16 rfl rfl
  · refine J_aload_n dX9_loose_17 rfl ?_
    refine J_getR dX9_loose_18 wX9_9 rfl jo_mPl_86 jr_86_0 ?_
    refine J_iconst dX9_loose_21 (v := (0 : Int32)) rfl ?_
    refine J_iald dX9_loose_22 ji_mPl_87 jl_87 (jin_spec (by decide)) (j := 0) rfl ?_
    refine J_iload_n dX9_loose_23 rfl ?_
    refine J_iadd dX9_loose_24 ?_
    refine J_sipush dX9_loose_25 (v := (9999 : Int32)) rfl ?_
    refine J_icmp_le dX9_loose_28 (tgt := 38) (by decide) (fun c25 => ?_) (fun c25 => ?_)
    · refine J_iconst dX9_loose_38 (v := (0 : Int32)) rfl ?_
      refine J_istore_n dX9_loose_39  (by decide) rfl ?_
      exact c9_loose_b40 jN _ _ _
    · refine J_aload_n dX9_loose_31 rfl ?_
      refine J_ldc dX9_loose_32 kX9_242 ?_
      refine J_callV_w (M' := m9_finding) (as := [_]) dX9_loose_34 lX9_81 sm9_finding sm9_finding_w jo_mPl_86 hci_X9 (by decide) rfl (Nat.le_of_ble_eq_true rfl) (c9_finding _ _) (fun r26 => ?_)
      exact J_iret dX9_loose_37 rfl rfl
set_option maxRecDepth 20000 in
theorem c9_then_b27 (μ : JMu) : JF m9_then 8 mPl (fun b : Int32 × JMu => (some (.int b.1), b.2)) 27 [some (.ref 86), none, none, none] [] μ (f9_then_b27  μ) := by
  unfold f9_then_b27
  refine J_aload_n dX9_then_27 rfl ?_
  refine J_ldc dX9_then_28 kX9_80 ?_
  refine J_callV_w (M' := m9_finding) (as := [_]) dX9_then_30 lX9_81 sm9_finding sm9_finding_w jo_mPl_86 hci_X9 (by decide) rfl (Nat.le_of_ble_eq_true rfl) (c9_finding _ _) (fun r14 => ?_)
  exact J_iret dX9_then_33 rfl rfl
set_option maxRecDepth 20000 in
theorem c9_then_b73 (s0 : Int32) (μ : JMu) : JF m9_then 8 mPl (fun b : Int32 × JMu => (some (.int b.1), b.2)) 73 [none, none, none, none] [.int (s0), .ref 86] μ (f9_then_b73 s0 μ) := by
  unfold f9_then_b73
  refine J_callV_w (M' := m9_putBack) (as := [_]) dX9_then_73 lX9_265 sm9_putBack sm9_putBack_w jo_mPl_86 hci_X9 (by decide) rfl (Nat.le_of_ble_eq_true rfl) (c9_putBack _ _) (fun r15 => ?_)
  exact J_iret dX9_then_76 rfl rfl
set_option maxRecDepth 20000 in
theorem c9_then (a1 : Int32) (a2 : Int32) (a3 : Int32) (μ : JMu) : ∀ b, f9_then a1 a2 a3 μ = some b → JC m9_then 8 mPl [.ref 86, .int (a1), .int (a2), .int (a3)] μ (some (.int b.1), b.2) := by
  refine JC_of (emb := (fun b : Int32 × JMu => (some (.int b.1), b.2))) (L0 := [some (.ref 86), some (.int (a1)), some (.int (a2)), some (.int (a3))]) sm9_then (Nat.le_of_ble_eq_true rfl) rfl ?_
  unfold f9_then
  refine J_iload_n dX9_then_0 rfl ?_
  refine J_iconst dX9_then_1 (v := (0 : Int32)) rfl ?_
  refine J_bipush dX9_then_2 (v := (100 : Int32)) rfl ?_
  refine J_callS_i (M' := m9_within) (as := [_, _, _]) dX9_then_4 lX9_76 sm9_within sm9_within_w (by decide) rfl (Nat.le_of_ble_eq_true rfl) (c9_within _ _ _ _) (fun r16 => ?_)
  refine J_if_eq dX9_then_7 (tgt := 27) (by decide) (fun c17 => ?_) (fun c17 => ?_)
  · refine JF_drop [1, 2, 3] ?_
    exact c9_then_b27  _
  · refine J_aload_n dX9_then_10 rfl ?_
    refine J_iload_n dX9_then_11 rfl ?_
    refine J_callV_i (M' := m9_isTenant) (as := [_]) dX9_then_12 lX9_227 sm9_isTenant sm9_isTenant_w jo_mPl_86 hci_X9 (by decide) rfl (Nat.le_of_ble_eq_true rfl) (c9_isTenant _ _) (fun r18 => ?_)
    refine J_if_eq dX9_then_15 (tgt := 27) (by decide) (fun c19 => ?_) (fun c19 => ?_)
    · refine JF_drop [1, 2, 3] ?_
      exact c9_then_b27  _
    · refine J_iload_n dX9_then_18 rfl ?_
      refine J_iconst dX9_then_19 (v := (0 : Int32)) rfl ?_
      refine J_iconst dX9_then_20 (v := (1 : Int32)) rfl ?_
      refine J_callS_i (M' := m9_within) (as := [_, _, _]) dX9_then_21 lX9_76 sm9_within sm9_within_w (by decide) rfl (Nat.le_of_ble_eq_true rfl) (c9_within _ _ _ _) (fun r20 => ?_)
      refine J_if_ne dX9_then_24 (tgt := 34) (by decide) (fun c21 => ?_) (fun c21 => ?_)
      · refine JF_drop [1, 2, 3] ?_
        exact c9_then_b27  _
      · refine J_aload_n dX9_then_34 rfl ?_
        refine J_getR dX9_then_35 wX9_9 rfl jo_mPl_86 jr_86_0 ?_
        refine J_aload_n dX9_then_38 rfl ?_
        refine J_getR dX9_then_39 wX9_16 rfl jo_mPl_86 jr_86_2 ?_
        refine J_callS_v (M' := m9_copy) (as := [_, _]) dX9_then_42 lX9_72 sm9_copy sm9_copy_w (by decide) rfl (Nat.le_of_ble_eq_true rfl) (c9_copy _ _ _) (fun r22 => ?_)
        refine J_aload_n dX9_then_45 rfl ?_
        refine J_iload_n dX9_then_46 rfl ?_
        refine J_callV_v (M' := m9_pass) (as := [_]) dX9_then_47 lX9_255 sm9_pass sm9_pass_w jo_mPl_86 hci_X9 (by decide) rfl (Nat.le_of_ble_eq_true rfl) (c9_pass _ _) (fun r23 => ?_)
        refine J_aload_n dX9_then_50 rfl ?_
        refine J_iload_n dX9_then_51 rfl ?_
        refine J_if_ne dX9_then_52 (tgt := 67) (by decide) (fun c24 => ?_) (fun c24 => ?_)
        · refine J_aload_n dX9_then_55 rfl ?_
          refine J_iload_n dX9_then_56 rfl ?_
          refine J_iconst dX9_then_57 (v := (3 : Int32)) rfl ?_
          refine J_callV_i (M' := m9_tenantIs) (as := [_, _]) dX9_then_58 lX9_179 sm9_tenantIs sm9_tenantIs_w jo_mPl_86 hci_X9 (by decide) rfl (Nat.le_of_ble_eq_true rfl) (c9_tenantIs _ _ _) (fun r26 => ?_)
          refine J_ldc dX9_then_61 kX9_230 ?_
          refine J_iadd dX9_then_63 ?_
          refine J_goto dX9_then_64 (tgt := 73) (by decide) ?_
          refine JF_drop [0, 1, 2, 3] ?_
          exact c9_then_b73 _ _
        · refine J_aload_n dX9_then_67 rfl ?_
          refine J_iload_n dX9_then_68 rfl ?_
          refine J_iconst dX9_then_69 (v := (2 : Int32)) rfl ?_
          refine J_callV_i (M' := m9_tenantIs) (as := [_, _]) dX9_then_70 lX9_179 sm9_tenantIs sm9_tenantIs_w jo_mPl_86 hci_X9 (by decide) rfl (Nat.le_of_ble_eq_true rfl) (c9_tenantIs _ _ _) (fun r25 => ?_)
          refine JF_drop [0, 1, 2, 3] ?_
          exact c9_then_b73 _ _
set_option maxRecDepth 20000 in
theorem c9_often_b18 (μ : JMu) : JF m9_often 5 mPl (fun b : Int32 × JMu => (some (.int b.1), b.2)) 18 [some (.ref 86), none, none, none, none, none] [] μ (f9_often_b18  μ) := by
  unfold f9_often_b18
  refine J_aload_n dX9_often_18 rfl ?_
  refine J_ldc dX9_often_19 kX9_80 ?_
  refine J_callV_w (M' := m9_finding) (as := [_]) dX9_often_21 lX9_81 sm9_finding sm9_finding_w jo_mPl_86 hci_X9 (by decide) rfl (Nat.le_of_ble_eq_true rfl) (c9_finding _ _) (fun r16 => ?_)
  exact J_iret dX9_often_24 rfl rfl
set_option maxRecDepth 20000 in
theorem c9_often_b73 (k38 : Int32 → Int32 → Int32 → Int32 → Int32 → JMu → Option (Int32 × JMu)) (hk38 : ∀ (v1 : Int32) (v2 : Int32) (v3 : Int32) (v4 : Int32) (v5 : Int32) (μ : JMu), JF m9_often 5 mPl (fun b : Int32 × JMu => (some (.int b.1), b.2)) 38 [some (.ref 86), some (.int (v1)), some (.int (v2)), some (.int (v3)), some (.int (v4)), some (.int (v5))] [] μ (k38 v1 v2 v3 v4 v5 μ)) (v1 : Int32) (v2 : Int32) (v3 : Int32) (v5 : Int32) (s0 : Int32) (s1 : Int32) (μ : JMu) : JF m9_often 5 mPl (fun b : Int32 × JMu => (some (.int b.1), b.2)) 73 [some (.ref 86), some (.int (v1)), some (.int (v2)), some (.int (v3)), none, some (.int (v5))] [.int (s0), .int (s1)] μ (f9_often_b73 k38 v1 v2 v3 v5 s0 s1 μ) := by
  unfold f9_often_b73
  refine J_iadd dX9_often_73 ?_
  refine J_istore dX9_often_74  (by decide) rfl ?_
  refine J_aload_n dX9_often_76 rfl ?_
  refine J_getR dX9_often_77 wX9_9 rfl jo_mPl_86 jr_86_0 ?_
  refine J_iconst dX9_often_80 (v := (0 : Int32)) rfl ?_
  refine J_dup2 dX9_often_81 rfl rfl ?_
  refine J_iald dX9_often_82 ji_mPl_87 jl_87 (jin_spec (by decide)) (j := 0) rfl ?_
  refine J_iconst dX9_often_83 (v := (1 : Int32)) rfl ?_
  refine J_iadd dX9_often_84 ?_
  refine J_iast dX9_often_85 ji_mPl_87 jl_87 (jin_spec (by decide)) (j := 0) rfl ?_
  refine J_iinc dX9_often_86 rfl (c0 := (1 : Int32)) rfl (by decide) rfl ?_
  refine J_goto dX9_often_89 (tgt := 38) (by decide) ?_
  exact hk38 _ _ _ _ _ _
set_option maxRecDepth 20000 in
theorem c9_often_b72 (k38 : Int32 → Int32 → Int32 → Int32 → Int32 → JMu → Option (Int32 × JMu)) (hk38 : ∀ (v1 : Int32) (v2 : Int32) (v3 : Int32) (v4 : Int32) (v5 : Int32) (μ : JMu), JF m9_often 5 mPl (fun b : Int32 × JMu => (some (.int b.1), b.2)) 38 [some (.ref 86), some (.int (v1)), some (.int (v2)), some (.int (v3)), some (.int (v4)), some (.int (v5))] [] μ (k38 v1 v2 v3 v4 v5 μ)) (v1 : Int32) (v2 : Int32) (v3 : Int32) (v5 : Int32) (s0 : Int32) (μ : JMu) : JF m9_often 5 mPl (fun b : Int32 × JMu => (some (.int b.1), b.2)) 72 [some (.ref 86), some (.int (v1)), some (.int (v2)), some (.int (v3)), none, some (.int (v5))] [.int (s0)] μ (f9_often_b72 k38 v1 v2 v3 v5 s0 μ) := by
  unfold f9_often_b72
  refine J_iconst dX9_often_72 (v := (0 : Int32)) rfl ?_
  exact c9_often_b73 k38 hk38 _ _ _ _ _ _ _
set_option maxRecDepth 20000 in
theorem c9_often_b38 (n : Nat) : ∀ (v1 : Int32) (v2 : Int32) (v3 : Int32) (v4 : Int32) (v5 : Int32) (μ : JMu), JF m9_often 5 mPl (fun b : Int32 × JMu => (some (.int b.1), b.2)) 38 [some (.ref 86), some (.int (v1)), some (.int (v2)), some (.int (v3)), some (.int (v4)), some (.int (v5))] [] μ (f9_often_b38 n v1 v2 v3 v4 v5 μ) := by
  induction n with
  | zero => intros; exact JF_none
  | succ n ih =>
    intro v1 v2 v3 v4 v5 μ
    rw [f9_often_b38]
    refine J_iload dX9_often_38 rfl ?_
    refine J_iload_n dX9_often_40 rfl ?_
    refine J_icmp_ge dX9_often_41 (tgt := 92) (by decide) (fun c19 => ?_) (fun c19 => ?_)
    · refine J_aload_n dX9_often_92 rfl ?_
      refine J_getR dX9_often_93 wX9_9 rfl jo_mPl_86 jr_86_0 ?_
      refine J_iconst dX9_often_96 (v := (0 : Int32)) rfl ?_
      refine J_iload_n dX9_often_97 rfl ?_
      refine J_iast dX9_often_98 ji_mPl_87 jl_87 (jin_spec (by decide)) (j := 0) rfl ?_
      refine J_iload dX9_often_99 rfl ?_
      exact J_iret dX9_often_101 rfl rfl
    · refine J_iload dX9_often_44 rfl ?_
      refine J_aload_n dX9_often_46 rfl ?_
      refine J_iload_n dX9_often_47 rfl ?_
      refine J_iconst dX9_often_48 (v := (2 : Int32)) rfl ?_
      refine J_callV_i (M' := m9_tenantIs) (as := [_, _]) dX9_often_49 lX9_179 sm9_tenantIs sm9_tenantIs_w jo_mPl_86 hci_X9 (by decide) rfl (Nat.le_of_ble_eq_true rfl) (c9_tenantIs _ _ _) (fun r21 => ?_)
      refine J_aload_n dX9_often_52 rfl ?_
      refine J_callV_w (M' := m9_seenNow) (as := []) dX9_often_53 lX9_195 sm9_seenNow sm9_seenNow_w jo_mPl_86 hci_X9 (by decide) rfl (Nat.le_of_ble_eq_true rfl) (c9_seenNow  _) (fun r22 => ?_)
      refine J_iand dX9_often_56 ?_
      refine J_if_eq dX9_often_57 (tgt := 72) (by decide) (fun c23 => ?_) (fun c23 => ?_)
      · refine JF_drop [4] ?_
        exact c9_often_b72 _ ih _ _ _ _ _ _
      · refine J_aload_n dX9_often_60 rfl ?_
        refine J_iload_n dX9_often_61 rfl ?_
        refine J_callV_i (M' := m9_looks) (as := [_]) dX9_often_62 lX9_224 sm9_looks sm9_looks_w jo_mPl_86 hci_X9 (by decide) rfl (Nat.le_of_ble_eq_true rfl) (c9_looks _ _) (fun r24 => ?_)
        refine J_if_eq dX9_often_65 (tgt := 72) (by decide) (fun c25 => ?_) (fun c25 => ?_)
        · refine JF_drop [4] ?_
          exact c9_often_b72 _ ih _ _ _ _ _ _
        · refine J_iconst dX9_often_68 (v := (1 : Int32)) rfl ?_
          refine J_goto dX9_often_69 (tgt := 73) (by decide) ?_
          refine JF_drop [4] ?_
          exact c9_often_b73 _ ih _ _ _ _ _ _ _
set_option maxRecDepth 20000 in
theorem c9_often (a1 : Int32) (a2 : Int32) (μ : JMu) : ∀ b, f9_often a1 a2 μ = some b → JC m9_often 5 mPl [.ref 86, .int (a1), .int (a2)] μ (some (.int b.1), b.2) := by
  refine JC_of (emb := (fun b : Int32 × JMu => (some (.int b.1), b.2))) (L0 := [some (.ref 86), some (.int (a1)), some (.int (a2)), none, none, none]) sm9_often (Nat.le_of_ble_eq_true rfl) rfl ?_
  unfold f9_often
  refine J_aload_n dX9_often_0 rfl ?_
  refine J_iload_n dX9_often_1 rfl ?_
  refine J_callV_i (M' := m9_isTenant) (as := [_]) dX9_often_2 lX9_227 sm9_isTenant sm9_isTenant_w jo_mPl_86 hci_X9 (by decide) rfl (Nat.le_of_ble_eq_true rfl) (c9_isTenant _ _) (fun r26 => ?_)
  refine J_if_eq dX9_often_5 (tgt := 18) (by decide) (fun c27 => ?_) (fun c27 => ?_)
  · refine JF_drop [1, 2] ?_
    exact c9_often_b18  _
  · refine J_iload_n dX9_often_8 rfl ?_
    refine J_iconst dX9_often_9 (v := (1 : Int32)) rfl ?_
    refine J_bipush dX9_often_10 (v := (100 : Int32)) rfl ?_
    refine J_callS_i (M' := m9_within) (as := [_, _, _]) dX9_often_12 lX9_76 sm9_within sm9_within_w (by decide) rfl (Nat.le_of_ble_eq_true rfl) (c9_within _ _ _ _) (fun r28 => ?_)
    refine J_if_ne dX9_often_15 (tgt := 25) (by decide) (fun c29 => ?_) (fun c29 => ?_)
    · refine JF_drop [1, 2] ?_
      exact c9_often_b18  _
    · refine J_aload_n dX9_often_25 rfl ?_
      refine J_getR dX9_often_26 wX9_9 rfl jo_mPl_86 jr_86_0 ?_
      refine J_iconst dX9_often_29 (v := (0 : Int32)) rfl ?_
      refine J_iald dX9_often_30 ji_mPl_87 jl_87 (jin_spec (by decide)) (j := 0) rfl ?_
      refine J_istore_n dX9_often_31  (by decide) rfl ?_
      refine J_iconst dX9_often_32 (v := (0 : Int32)) rfl ?_
      refine J_istore dX9_often_33  (by decide) rfl ?_
      refine J_iconst dX9_often_35 (v := (0 : Int32)) rfl ?_
      refine J_istore dX9_often_36  (by decide) rfl ?_
      exact c9_often_b38 jN _ _ _ _ _ _
set_option maxRecDepth 20000 in
theorem c9_whole_b74 (k46 : Int32 → Int32 → Int32 → Int32 → JMu → Option (Int32 × JMu)) (hk46 : ∀ (v2 : Int32) (v3 : Int32) (v4 : Int32) (v5 : Int32) (μ : JMu), JF m9_whole 5 mPl (fun b : Int32 × JMu => (some (.int b.1), b.2)) 46 [some (.ref 86), none, some (.int (v2)), some (.int (v3)), some (.int (v4)), some (.int (v5))] [] μ (k46 v2 v3 v4 v5 μ)) (v2 : Int32) (v3 : Int32) (v5 : Int32) (s0 : Int32) (μ : JMu) : JF m9_whole 5 mPl (fun b : Int32 × JMu => (some (.int b.1), b.2)) 74 [some (.ref 86), none, some (.int (v2)), some (.int (v3)), none, some (.int (v5))] [.int (s0)] μ (f9_whole_b74 k46 v2 v3 v5 s0 μ) := by
  unfold f9_whole_b74
  refine J_istore dX9_whole_74  (by decide) rfl ?_
  refine J_aload_n dX9_whole_76 rfl ?_
  refine J_getR dX9_whole_77 wX9_9 rfl jo_mPl_86 jr_86_0 ?_
  refine J_iconst dX9_whole_80 (v := (0 : Int32)) rfl ?_
  refine J_dup2 dX9_whole_81 rfl rfl ?_
  refine J_iald dX9_whole_82 ji_mPl_87 jl_87 (jin_spec (by decide)) (j := 0) rfl ?_
  refine J_iconst dX9_whole_83 (v := (1 : Int32)) rfl ?_
  refine J_iadd dX9_whole_84 ?_
  refine J_iast dX9_whole_85 ji_mPl_87 jl_87 (jin_spec (by decide)) (j := 0) rfl ?_
  refine J_iinc dX9_whole_86 rfl (c0 := (1 : Int32)) rfl (by decide) rfl ?_
  refine J_goto dX9_whole_89 (tgt := 46) (by decide) ?_
  exact hk46 _ _ _ _ _
set_option maxRecDepth 20000 in
theorem c9_whole_b92 (v3 : Int32) (v4 : Int32) (μ : JMu) : JF m9_whole 5 mPl (fun b : Int32 × JMu => (some (.int b.1), b.2)) 92 [some (.ref 86), none, none, some (.int (v3)), some (.int (v4)), none] [] μ (f9_whole_b92 v3 v4 μ) := by
  unfold f9_whole_b92
  refine J_aload_n dX9_whole_92 rfl ?_
  refine J_getR dX9_whole_93 wX9_9 rfl jo_mPl_86 jr_86_0 ?_
  refine J_iconst dX9_whole_96 (v := (0 : Int32)) rfl ?_
  refine J_iload_n dX9_whole_97 rfl ?_
  refine J_iast dX9_whole_98 ji_mPl_87 jl_87 (jin_spec (by decide)) (j := 0) rfl ?_
  refine J_iload dX9_whole_99 rfl ?_
  refine J_if_ge dX9_whole_101 (tgt := 114) (by decide) (fun c19 => ?_) (fun c19 => ?_)
  · refine J_iload dX9_whole_114 rfl ?_
    exact J_iret dX9_whole_116 rfl rfl
  · refine J_aload_n dX9_whole_104 rfl ?_
    refine J_ldcw dX9_whole_105 kX9_268 ?_
    refine J_callV_w (M' := m9_finding) (as := [_]) dX9_whole_108 lX9_81 sm9_finding sm9_finding_w jo_mPl_86 hci_X9 (by decide) rfl (Nat.le_of_ble_eq_true rfl) (c9_finding _ _) (fun r20 => ?_)
    refine J_goto dX9_whole_111 (tgt := 116) (by decide) ?_
    exact J_iret dX9_whole_116 rfl rfl
set_option maxRecDepth 20000 in
theorem c9_whole_b46 (n : Nat) : ∀ (v2 : Int32) (v3 : Int32) (v4 : Int32) (v5 : Int32) (μ : JMu), JF m9_whole 5 mPl (fun b : Int32 × JMu => (some (.int b.1), b.2)) 46 [some (.ref 86), none, some (.int (v2)), some (.int (v3)), some (.int (v4)), some (.int (v5))] [] μ (f9_whole_b46 n v2 v3 v4 v5 μ) := by
  induction n with
  | zero => intros; exact JF_none
  | succ n ih =>
    intro v2 v3 v4 v5 μ
    rw [f9_whole_b46]
    refine J_iload dX9_whole_46 rfl ?_
    refine J_bipush dX9_whole_48 (v := (100 : Int32)) rfl ?_
    refine J_icmp_gt dX9_whole_50 (tgt := 92) (by decide) (fun c22 => ?_) (fun c22 => ?_)
    · refine JF_drop [2, 5] ?_
      exact c9_whole_b92 _ _ _
    · refine J_iload dX9_whole_53 rfl ?_
      refine J_if_ge dX9_whole_55 (tgt := 92) (by decide) (fun c23 => ?_) (fun c23 => ?_)
      · refine JF_drop [2, 5] ?_
        exact c9_whole_b92 _ _ _
      · refine J_iload_n dX9_whole_58 rfl ?_
        refine J_aload_n dX9_whole_59 rfl ?_
        refine J_callV_w (M' := m9_seenNow) (as := []) dX9_whole_60 lX9_195 sm9_seenNow sm9_seenNow_w jo_mPl_86 hci_X9 (by decide) rfl (Nat.le_of_ble_eq_true rfl) (c9_seenNow  _) (fun r24 => ?_)
        refine J_iand dX9_whole_63 ?_
        refine J_iload_n dX9_whole_64 rfl ?_
        refine J_icmp_ne dX9_whole_65 (tgt := 73) (by decide) (fun c25 => ?_) (fun c25 => ?_)
        · refine J_iload dX9_whole_68 rfl ?_
          refine J_goto dX9_whole_70 (tgt := 74) (by decide) ?_
          refine JF_drop [4] ?_
          exact c9_whole_b74 _ ih _ _ _ _ _
        · refine J_iconst dX9_whole_73 (v := (-1 : Int32)) rfl ?_
          refine JF_drop [4] ?_
          exact c9_whole_b74 _ ih _ _ _ _ _
set_option maxRecDepth 20000 in
theorem c9_whole (a1 : Int32) (μ : JMu) : ∀ b, f9_whole a1 μ = some b → JC m9_whole 5 mPl [.ref 86, .int (a1)] μ (some (.int b.1), b.2) := by
  refine JC_of (emb := (fun b : Int32 × JMu => (some (.int b.1), b.2))) (L0 := [some (.ref 86), some (.int (a1)), none, none, none, none]) sm9_whole (Nat.le_of_ble_eq_true rfl) rfl ?_
  unfold f9_whole
  refine J_aload_n dX9_whole_0 rfl ?_
  refine J_iload_n dX9_whole_1 rfl ?_
  refine J_callV_i (M' := m9_isTenant) (as := [_]) dX9_whole_2 lX9_227 sm9_isTenant sm9_isTenant_w jo_mPl_86 hci_X9 (by decide) rfl (Nat.le_of_ble_eq_true rfl) (c9_isTenant _ _) (fun r26 => ?_)
  refine J_if_ne dX9_whole_5 (tgt := 15) (by decide) (fun c27 => ?_) (fun c27 => ?_)
  · refine J_aload_n dX9_whole_8 rfl ?_
    refine J_ldc dX9_whole_9 kX9_80 ?_
    refine J_callV_w (M' := m9_finding) (as := [_]) dX9_whole_11 lX9_81 sm9_finding sm9_finding_w jo_mPl_86 hci_X9 (by decide) rfl (Nat.le_of_ble_eq_true rfl) (c9_finding _ _) (fun r32 => ?_)
    exact J_iret dX9_whole_14 rfl rfl
  · refine J_aload_n dX9_whole_15 rfl ?_
    refine J_iload_n dX9_whole_16 rfl ?_
    refine J_iconst dX9_whole_17 (v := (2 : Int32)) rfl ?_
    refine J_callV_i (M' := m9_tenantIs) (as := [_, _]) dX9_whole_18 lX9_179 sm9_tenantIs sm9_tenantIs_w jo_mPl_86 hci_X9 (by decide) rfl (Nat.le_of_ble_eq_true rfl) (c9_tenantIs _ _ _) (fun r28 => ?_)
    refine J_istore_n dX9_whole_21  (by decide) rfl ?_
    refine J_iload_n dX9_whole_22 rfl ?_
    refine J_if_ne dX9_whole_23 (tgt := 33) (by decide) (fun c29 => ?_) (fun c29 => ?_)
    · refine J_aload_n dX9_whole_26 rfl ?_
      refine J_ldc dX9_whole_27 kX9_242 ?_
      refine J_callV_w (M' := m9_finding) (as := [_]) dX9_whole_29 lX9_81 sm9_finding sm9_finding_w jo_mPl_86 hci_X9 (by decide) rfl (Nat.le_of_ble_eq_true rfl) (c9_finding _ _) (fun r31 => ?_)
      exact J_iret dX9_whole_32 rfl rfl
    · refine J_aload_n dX9_whole_33 rfl ?_
      refine J_getR dX9_whole_34 wX9_9 rfl jo_mPl_86 jr_86_0 ?_
      refine J_iconst dX9_whole_37 (v := (0 : Int32)) rfl ?_
      refine J_iald dX9_whole_38 ji_mPl_87 jl_87 (jin_spec (by decide)) (j := 0) rfl ?_
      refine J_istore_n dX9_whole_39  (by decide) rfl ?_
      refine J_iconst dX9_whole_40 (v := (-1 : Int32)) rfl ?_
      refine J_istore dX9_whole_41  (by decide) rfl ?_
      refine J_iconst dX9_whole_43 (v := (0 : Int32)) rfl ?_
      refine J_istore dX9_whole_44  (by decide) rfl ?_
      refine JF_drop [1] ?_
      exact c9_whole_b46 jN _ _ _ _ _
set_option maxRecDepth 20000 in
theorem c9_stays_b67 (v1 : Int32) (v2 : Int32) (μ : JMu) : JF m9_stays 7 mPl (fun b : Int32 × JMu => (some (.int b.1), b.2)) 67 [some (.ref 86), some (.int (v1)), some (.int (v2)), none] [] μ (f9_stays_b67 v1 v2 μ) := by
  unfold f9_stays_b67
  refine J_aload_n dX9_stays_67 rfl ?_
  refine J_iload_n dX9_stays_68 rfl ?_
  refine J_callV_i (M' := m9_isOut) (as := [_]) dX9_stays_69 lX9_239 sm9_isOut sm9_isOut_w jo_mPl_86 hci_X9 (by decide) rfl (Nat.le_of_ble_eq_true rfl) (c9_isOut _ _) (fun r16 => ?_)
  refine J_istore_n dX9_stays_72  (by decide) rfl ?_
  refine J_aload_n dX9_stays_73 rfl ?_
  refine J_getR dX9_stays_74 wX9_16 rfl jo_mPl_86 jr_86_2 ?_
  refine J_aload_n dX9_stays_77 rfl ?_
  refine J_getR dX9_stays_78 wX9_9 rfl jo_mPl_86 jr_86_0 ?_
  refine J_callS_v (M' := m9_copy) (as := [_, _]) dX9_stays_81 lX9_72 sm9_copy sm9_copy_w (by decide) rfl (Nat.le_of_ble_eq_true rfl) (c9_copy _ _ _) (fun r17 => ?_)
  refine J_iload_n dX9_stays_84 rfl ?_
  refine J_if_eq dX9_stays_85 (tgt := 92) (by decide) (fun c18 => ?_) (fun c18 => ?_)
  · refine J_aload_n dX9_stays_92 rfl ?_
    refine J_ldcw dX9_stays_93 kX9_268 ?_
    refine J_callV_w (M' := m9_finding) (as := [_]) dX9_stays_96 lX9_81 sm9_finding sm9_finding_w jo_mPl_86 hci_X9 (by decide) rfl (Nat.le_of_ble_eq_true rfl) (c9_finding _ _) (fun r19 => ?_)
    exact J_iret dX9_stays_99 rfl rfl
  · refine J_iload_n dX9_stays_88 rfl ?_
    refine J_goto dX9_stays_89 (tgt := 99) (by decide) ?_
    exact J_iret dX9_stays_99 rfl rfl
set_option maxRecDepth 20000 in
theorem c9_stays_b43 (n : Nat) : ∀ (v1 : Int32) (v2 : Int32) (μ : JMu), JF m9_stays 7 mPl (fun b : Int32 × JMu => (some (.int b.1), b.2)) 43 [some (.ref 86), some (.int (v1)), some (.int (v2)), none] [] μ (f9_stays_b43 n v1 v2 μ) := by
  induction n with
  | zero => intros; exact JF_none
  | succ n ih =>
    intro v1 v2 μ
    rw [f9_stays_b43]
    refine J_iload_n dX9_stays_43 rfl ?_
    refine J_bipush dX9_stays_44 (v := (100 : Int32)) rfl ?_
    refine J_icmp_ge dX9_stays_46 (tgt := 67) (by decide) (fun c20 => ?_) (fun c20 => ?_)
    · exact c9_stays_b67 _ _ _
    · refine J_aload_n dX9_stays_49 rfl ?_
      refine J_iload_n dX9_stays_50 rfl ?_
      refine J_callV_i (M' := m9_isOut) (as := [_]) dX9_stays_51 lX9_239 sm9_isOut sm9_isOut_w jo_mPl_86 hci_X9 (by decide) rfl (Nat.le_of_ble_eq_true rfl) (c9_isOut _ _) (fun r21 => ?_)
      refine J_if_ne dX9_stays_54 (tgt := 67) (by decide) (fun c22 => ?_) (fun c22 => ?_)
      · refine J_aload_n dX9_stays_57 rfl ?_
        refine J_callV_v (M' := m9_night) (as := []) dX9_stays_58 lX9_252 sm9_night sm9_night_w jo_mPl_86 hci_X9 (by decide) rfl (Nat.le_of_ble_eq_true rfl) (c9_night  _) (fun r23 => ?_)
        refine J_iinc dX9_stays_61 rfl (c0 := (1 : Int32)) rfl (by decide) rfl ?_
        refine J_goto dX9_stays_64 (tgt := 43) (by decide) ?_
        exact ih _ _ _
      · exact c9_stays_b67 _ _ _
set_option maxRecDepth 20000 in
theorem c9_stays (a1 : Int32) (μ : JMu) : ∀ b, f9_stays a1 μ = some b → JC m9_stays 7 mPl [.ref 86, .int (a1)] μ (some (.int b.1), b.2) := by
  refine JC_of (emb := (fun b : Int32 × JMu => (some (.int b.1), b.2))) (L0 := [some (.ref 86), some (.int (a1)), none, none]) sm9_stays (Nat.le_of_ble_eq_true rfl) rfl ?_
  unfold f9_stays
  refine J_aload_n dX9_stays_0 rfl ?_
  refine J_iload_n dX9_stays_1 rfl ?_
  refine J_callV_i (M' := m9_isTenant) (as := [_]) dX9_stays_2 lX9_227 sm9_isTenant sm9_isTenant_w jo_mPl_86 hci_X9 (by decide) rfl (Nat.le_of_ble_eq_true rfl) (c9_isTenant _ _) (fun r24 => ?_)
  refine J_if_ne dX9_stays_5 (tgt := 15) (by decide) (fun c25 => ?_) (fun c25 => ?_)
  · refine J_aload_n dX9_stays_8 rfl ?_
    refine J_ldc dX9_stays_9 kX9_80 ?_
    refine J_callV_w (M' := m9_finding) (as := [_]) dX9_stays_11 lX9_81 sm9_finding sm9_finding_w jo_mPl_86 hci_X9 (by decide) rfl (Nat.le_of_ble_eq_true rfl) (c9_finding _ _) (fun r30 => ?_)
    exact J_iret dX9_stays_14 rfl rfl
  · refine J_aload_n dX9_stays_15 rfl ?_
    refine J_iload_n dX9_stays_16 rfl ?_
    refine J_callV_i (M' := m9_isOut) (as := [_]) dX9_stays_17 lX9_239 sm9_isOut sm9_isOut_w jo_mPl_86 hci_X9 (by decide) rfl (Nat.le_of_ble_eq_true rfl) (c9_isOut _ _) (fun r26 => ?_)
    refine J_if_eq dX9_stays_20 (tgt := 30) (by decide) (fun c27 => ?_) (fun c27 => ?_)
    · refine J_aload_n dX9_stays_30 rfl ?_
      refine J_getR dX9_stays_31 wX9_9 rfl jo_mPl_86 jr_86_0 ?_
      refine J_aload_n dX9_stays_34 rfl ?_
      refine J_getR dX9_stays_35 wX9_16 rfl jo_mPl_86 jr_86_2 ?_
      refine J_callS_v (M' := m9_copy) (as := [_, _]) dX9_stays_38 lX9_72 sm9_copy sm9_copy_w (by decide) rfl (Nat.le_of_ble_eq_true rfl) (c9_copy _ _ _) (fun r28 => ?_)
      refine J_iconst dX9_stays_41 (v := (0 : Int32)) rfl ?_
      refine J_istore_n dX9_stays_42  (by decide) rfl ?_
      exact c9_stays_b43 jN _ _ _
    · refine J_aload_n dX9_stays_23 rfl ?_
      refine J_ldc dX9_stays_24 kX9_242 ?_
      refine J_callV_w (M' := m9_finding) (as := [_]) dX9_stays_26 lX9_81 sm9_finding sm9_finding_w jo_mPl_86 hci_X9 (by decide) rfl (Nat.le_of_ble_eq_true rfl) (c9_finding _ _) (fun r29 => ?_)
      exact J_iret dX9_stays_29 rfl rfl
set_option maxRecDepth 20000 in
theorem c9_clashes_b25 (μ : JMu) (v1 : Int32) (v2 : Int32) (s0 : Int32) : JF m9_clashes 2 mPl (fun b : Int32 => (some (.int b), μ)) 25 [some (.ref 86), some (.int (v1)), some (.int (v2)), none] [.int (s0)] μ (f9_clashes_b25 v1 v2 s0 μ) := by
  unfold f9_clashes_b25
  refine J_istore_n dX9_clashes_25  (by decide) rfl ?_
  refine J_iload_n dX9_clashes_26 rfl ?_
  refine J_if_ne dX9_clashes_27 (tgt := 50) (by decide) (fun c9 => ?_) (fun c9 => ?_)
  · refine J_aload_n dX9_clashes_30 rfl ?_
    refine J_iload_n dX9_clashes_31 rfl ?_
    refine J_iconst dX9_clashes_32 (v := (2 : Int32)) rfl ?_
    refine J_callV_i (M' := m9_tenantIs) (as := [_, _]) dX9_clashes_33 lX9_179 sm9_tenantIs sm9_tenantIs_w jo_mPl_86 hci_X9 (by decide) rfl (Nat.le_of_ble_eq_true rfl) (c9_tenantIs _ _ _) (fun r10 => ?_)
    refine J_aload_n dX9_clashes_36 rfl ?_
    refine J_iload_n dX9_clashes_37 rfl ?_
    refine J_iconst dX9_clashes_38 (v := (2 : Int32)) rfl ?_
    refine J_callV_i (M' := m9_tenantIs) (as := [_, _]) dX9_clashes_39 lX9_179 sm9_tenantIs sm9_tenantIs_w jo_mPl_86 hci_X9 (by decide) rfl (Nat.le_of_ble_eq_true rfl) (c9_tenantIs _ _ _) (fun r11 => ?_)
    refine J_iand dX9_clashes_42 ?_
    refine J_if_eq dX9_clashes_43 (tgt := 50) (by decide) (fun c12 => ?_) (fun c12 => ?_)
    · refine J_iconst dX9_clashes_50 (v := (0 : Int32)) rfl ?_
      exact J_zret dX9_clashes_51 rfl (Or.inl rfl) rfl
    · refine J_iconst dX9_clashes_46 (v := (1 : Int32)) rfl ?_
      refine J_goto dX9_clashes_47 (tgt := 51) (by decide) ?_
      exact J_zret dX9_clashes_51 rfl (Or.inr rfl) rfl
  · refine J_iconst dX9_clashes_50 (v := (0 : Int32)) rfl ?_
    exact J_zret dX9_clashes_51 rfl (Or.inl rfl) rfl
set_option maxRecDepth 20000 in
theorem c9_clashes_b24 (μ : JMu) (v1 : Int32) (v2 : Int32) : JF m9_clashes 2 mPl (fun b : Int32 => (some (.int b), μ)) 24 [some (.ref 86), some (.int (v1)), some (.int (v2)), none] [] μ (f9_clashes_b24 v1 v2 μ) := by
  unfold f9_clashes_b24
  refine J_iconst dX9_clashes_24 (v := (0 : Int32)) rfl ?_
  exact c9_clashes_b25 μ _ _ _
set_option maxRecDepth 20000 in
theorem c9_clashes (a1 : Int32) (a2 : Int32) (μ : JMu) : ∀ b, f9_clashes a1 a2 μ = some b → JC m9_clashes 2 mPl [.ref 86, .int (a1), .int (a2)] μ (some (.int b), μ) := by
  refine JC_of (emb := (fun b : Int32 => (some (.int b), μ))) (L0 := [some (.ref 86), some (.int (a1)), some (.int (a2)), none]) sm9_clashes (Nat.le_of_ble_eq_true rfl) rfl ?_
  unfold f9_clashes
  refine J_aload_n dX9_clashes_0 rfl ?_
  refine J_iload_n dX9_clashes_1 rfl ?_
  refine J_iconst dX9_clashes_2 (v := (0 : Int32)) rfl ?_
  refine J_callV_i (M' := m9_tenantIs) (as := [_, _]) dX9_clashes_3 lX9_179 sm9_tenantIs sm9_tenantIs_w jo_mPl_86 hci_X9 (by decide) rfl (Nat.le_of_ble_eq_true rfl) (c9_tenantIs _ _ _) (fun r13 => ?_)
  refine J_iconst dX9_clashes_6 (v := (4 : Int32)) rfl ?_
  refine J_icmp_ne dX9_clashes_7 (tgt := 24) (by decide) (fun c14 => ?_) (fun c14 => ?_)
  · refine J_aload_n dX9_clashes_10 rfl ?_
    refine J_iload_n dX9_clashes_11 rfl ?_
    refine J_iconst dX9_clashes_12 (v := (0 : Int32)) rfl ?_
    refine J_callV_i (M' := m9_tenantIs) (as := [_, _]) dX9_clashes_13 lX9_179 sm9_tenantIs sm9_tenantIs_w jo_mPl_86 hci_X9 (by decide) rfl (Nat.le_of_ble_eq_true rfl) (c9_tenantIs _ _ _) (fun r15 => ?_)
    refine J_iconst dX9_clashes_16 (v := (4 : Int32)) rfl ?_
    refine J_icmp_ne dX9_clashes_17 (tgt := 24) (by decide) (fun c16 => ?_) (fun c16 => ?_)
    · refine J_iconst dX9_clashes_20 (v := (1 : Int32)) rfl ?_
      refine J_goto dX9_clashes_21 (tgt := 25) (by decide) ?_
      exact c9_clashes_b25 μ _ _ _
    · exact c9_clashes_b24 μ _ _
  · exact c9_clashes_b24 μ _ _
set_option maxRecDepth 20000 in
theorem c9_clashBut_b56 (μ : JMu) (k4 : Int32 → Int32 → Int32 → JMu → Option (Int32)) (hk4 : ∀ (v1 : Int32) (v2 : Int32) (v3 : Int32), JF m9_clashBut 3 mPl (fun b : Int32 => (some (.int b), μ)) 4 [some (.ref 86), some (.int (v1)), some (.int (v2)), some (.int (v3)), none] [] μ (k4 v1 v2 v3 μ)) (k17 : Int32 → Int32 → Int32 → Int32 → JMu → Option (Int32)) (hk17 : ∀ (v1 : Int32) (v2 : Int32) (v3 : Int32) (v4 : Int32), JF m9_clashBut 3 mPl (fun b : Int32 => (some (.int b), μ)) 17 [some (.ref 86), some (.int (v1)), some (.int (v2)), some (.int (v3)), some (.int (v4))] [] μ (k17 v1 v2 v3 v4 μ)) (v1 : Int32) (v3 : Int32) (v4 : Int32) (s0 : Int32) (s1 : Int32) : JF m9_clashBut 3 mPl (fun b : Int32 => (some (.int b), μ)) 56 [some (.ref 86), some (.int (v1)), none, some (.int (v3)), some (.int (v4))] [.int (s0), .int (s1)] μ (f9_clashBut_b56 k4 k17 v1 v3 v4 s0 s1 μ) := by
  unfold f9_clashBut_b56
  refine J_iadd dX9_clashBut_56 ?_
  refine J_istore_n dX9_clashBut_57  (by decide) rfl ?_
  refine J_iinc dX9_clashBut_58 rfl (c0 := (1 : Int32)) rfl (by decide) rfl ?_
  refine J_goto dX9_clashBut_61 (tgt := 17) (by decide) ?_
  exact hk17 _ _ _ _
set_option maxRecDepth 20000 in
theorem c9_clashBut_b55 (μ : JMu) (k4 : Int32 → Int32 → Int32 → JMu → Option (Int32)) (hk4 : ∀ (v1 : Int32) (v2 : Int32) (v3 : Int32), JF m9_clashBut 3 mPl (fun b : Int32 => (some (.int b), μ)) 4 [some (.ref 86), some (.int (v1)), some (.int (v2)), some (.int (v3)), none] [] μ (k4 v1 v2 v3 μ)) (k17 : Int32 → Int32 → Int32 → Int32 → JMu → Option (Int32)) (hk17 : ∀ (v1 : Int32) (v2 : Int32) (v3 : Int32) (v4 : Int32), JF m9_clashBut 3 mPl (fun b : Int32 => (some (.int b), μ)) 17 [some (.ref 86), some (.int (v1)), some (.int (v2)), some (.int (v3)), some (.int (v4))] [] μ (k17 v1 v2 v3 v4 μ)) (v1 : Int32) (v3 : Int32) (v4 : Int32) (s0 : Int32) : JF m9_clashBut 3 mPl (fun b : Int32 => (some (.int b), μ)) 55 [some (.ref 86), some (.int (v1)), none, some (.int (v3)), some (.int (v4))] [.int (s0)] μ (f9_clashBut_b55 k4 k17 v1 v3 v4 s0 μ) := by
  unfold f9_clashBut_b55
  refine J_iconst dX9_clashBut_55 (v := (0 : Int32)) rfl ?_
  exact c9_clashBut_b56 μ k4 hk4 k17 hk17 _ _ _ _ _
set_option maxRecDepth 20000 in
theorem c9_clashBut_b17 (μ : JMu) (k4 : Int32 → Int32 → Int32 → JMu → Option (Int32)) (hk4 : ∀ (v1 : Int32) (v2 : Int32) (v3 : Int32), JF m9_clashBut 3 mPl (fun b : Int32 => (some (.int b), μ)) 4 [some (.ref 86), some (.int (v1)), some (.int (v2)), some (.int (v3)), none] [] μ (k4 v1 v2 v3 μ)) (n : Nat) : ∀ (v1 : Int32) (v2 : Int32) (v3 : Int32) (v4 : Int32), JF m9_clashBut 3 mPl (fun b : Int32 => (some (.int b), μ)) 17 [some (.ref 86), some (.int (v1)), some (.int (v2)), some (.int (v3)), some (.int (v4))] [] μ (f9_clashBut_b17 k4 n v1 v2 v3 v4 μ) := by
  induction n with
  | zero => intros; exact JF_none
  | succ n ih =>
    intro v1 v2 v3 v4
    rw [f9_clashBut_b17]
    refine J_iload dX9_clashBut_17 rfl ?_
    refine J_iload_n dX9_clashBut_19 rfl ?_
    refine J_icmp_ge dX9_clashBut_20 (tgt := 64) (by decide) (fun c10 => ?_) (fun c10 => ?_)
    · refine J_iinc dX9_clashBut_64 rfl (c0 := (1 : Int32)) rfl (by decide) rfl ?_
      refine J_goto dX9_clashBut_67 (tgt := 4) (by decide) ?_
      refine JF_drop [4] ?_
      exact hk4 _ _ _
    · refine J_iload_n dX9_clashBut_23 rfl ?_
      refine J_iload_n dX9_clashBut_24 rfl ?_
      refine J_iload_n dX9_clashBut_25 rfl ?_
      refine J_callS_i (M' := m9_hasBit) (as := [_, _]) dX9_clashBut_26 lX9_182 sm9_hasBit sm9_hasBit_w (by decide) rfl (Nat.le_of_ble_eq_true rfl) (c9_hasBit _ _ _) (fun r11 => ?_)
      refine J_if_ne dX9_clashBut_29 (tgt := 55) (by decide) (fun c12 => ?_) (fun c12 => ?_)
      · refine J_iload_n dX9_clashBut_32 rfl ?_
        refine J_iload dX9_clashBut_33 rfl ?_
        refine J_callS_i (M' := m9_hasBit) (as := [_, _]) dX9_clashBut_35 lX9_182 sm9_hasBit sm9_hasBit_w (by decide) rfl (Nat.le_of_ble_eq_true rfl) (c9_hasBit _ _ _) (fun r13 => ?_)
        refine J_if_ne dX9_clashBut_38 (tgt := 55) (by decide) (fun c14 => ?_) (fun c14 => ?_)
        · refine J_aload_n dX9_clashBut_41 rfl ?_
          refine J_iload_n dX9_clashBut_42 rfl ?_
          refine J_iload dX9_clashBut_43 rfl ?_
          refine J_callV_i (M' := m9_clashes) (as := [_, _]) dX9_clashBut_45 lX9_269 sm9_clashes sm9_clashes_w jo_mPl_86 hci_X9 (by decide) rfl (Nat.le_of_ble_eq_true rfl) (c9_clashes _ _ _) (fun r15 => ?_)
          refine J_if_eq dX9_clashBut_48 (tgt := 55) (by decide) (fun c16 => ?_) (fun c16 => ?_)
          · refine JF_drop [2] ?_
            exact c9_clashBut_b55 μ k4 hk4 _ ih _ _ _ _
          · refine J_iconst dX9_clashBut_51 (v := (1 : Int32)) rfl ?_
            refine J_goto dX9_clashBut_52 (tgt := 56) (by decide) ?_
            refine JF_drop [2] ?_
            exact c9_clashBut_b56 μ k4 hk4 _ ih _ _ _ _ _
        · refine JF_drop [2] ?_
          exact c9_clashBut_b55 μ k4 hk4 _ ih _ _ _ _
      · refine JF_drop [2] ?_
        exact c9_clashBut_b55 μ k4 hk4 _ ih _ _ _ _
set_option maxRecDepth 20000 in
theorem c9_clashBut_b4 (μ : JMu) (n : Nat) : ∀ (v1 : Int32) (v2 : Int32) (v3 : Int32), JF m9_clashBut 3 mPl (fun b : Int32 => (some (.int b), μ)) 4 [some (.ref 86), some (.int (v1)), some (.int (v2)), some (.int (v3)), none] [] μ (f9_clashBut_b4 n v1 v2 v3 μ) := by
  induction n with
  | zero => intros; exact JF_none
  | succ n ih =>
    intro v1 v2 v3
    rw [f9_clashBut_b4]
    refine J_iload_n dX9_clashBut_4 rfl ?_
    refine J_aload_n dX9_clashBut_5 rfl ?_
    refine J_getR dX9_clashBut_6 wX9_9 rfl jo_mPl_86 jr_86_0 ?_
    refine J_iconst dX9_clashBut_9 (v := (1 : Int32)) rfl ?_
    refine J_iald dX9_clashBut_10 ji_mPl_87 jl_87 (jin_spec (by decide)) (j := 1) rfl ?_
    refine J_icmp_ge dX9_clashBut_11 (tgt := 70) (by decide) (fun c17 => ?_) (fun c17 => ?_)
    · refine J_iload_n dX9_clashBut_70 rfl ?_
      exact J_iret dX9_clashBut_71 rfl rfl
    · refine J_iconst dX9_clashBut_14 (v := (0 : Int32)) rfl ?_
      refine J_istore dX9_clashBut_15  (by decide) rfl ?_
      exact c9_clashBut_b17 μ _ ih jN _ _ _ _
set_option maxRecDepth 20000 in
theorem c9_clashBut (a1 : Int32) (μ : JMu) : ∀ b, f9_clashBut a1 μ = some b → JC m9_clashBut 3 mPl [.ref 86, .int (a1)] μ (some (.int b), μ) := by
  refine JC_of (emb := (fun b : Int32 => (some (.int b), μ))) (L0 := [some (.ref 86), some (.int (a1)), none, none, none]) sm9_clashBut (Nat.le_of_ble_eq_true rfl) rfl ?_
  unfold f9_clashBut
  refine J_iconst dX9_clashBut_0 (v := (0 : Int32)) rfl ?_
  refine J_istore_n dX9_clashBut_1  (by decide) rfl ?_
  refine J_iconst dX9_clashBut_2 (v := (0 : Int32)) rfl ?_
  refine J_istore_n dX9_clashBut_3  (by decide) rfl ?_
  exact c9_clashBut_b4 μ jN _ _ _
set_option maxRecDepth 20000 in
theorem c9_clash (μ : JMu) : ∀ b, f9_clash  μ = some b → JC m9_clash 4 mPl [.ref 86] μ (some (.int b), μ) := by
  refine JC_of (emb := (fun b : Int32 => (some (.int b), μ))) (L0 := [some (.ref 86)]) sm9_clash (Nat.le_of_ble_eq_true rfl) rfl ?_
  unfold f9_clash
  refine J_aload_n dX9_clash_0 rfl ?_
  refine J_iconst dX9_clash_1 (v := (0 : Int32)) rfl ?_
  refine J_callV_i (M' := m9_clashBut) (as := [_]) dX9_clash_2 lX9_272 sm9_clashBut sm9_clashBut_w jo_mPl_86 hci_X9 (by decide) rfl (Nat.le_of_ble_eq_true rfl) (c9_clashBut _ _) (fun r2 => ?_)
  exact J_iret dX9_clash_5 rfl rfl
set_option maxRecDepth 20000 in
theorem c9_least_b60 (k20 : Int32 → Int32 → Int32 → JMu → Option (Int32 × JMu)) (hk20 : ∀ (v1 : Int32) (v2 : Int32) (v3 : Int32) (μ : JMu), JF m9_least 4 mPl (fun b : Int32 × JMu => (some (.int b.1), b.2)) 20 [some (.ref 86), some (.int (v1)), some (.int (v2)), some (.int (v3))] [] μ (k20 v1 v2 v3 μ)) (v1 : Int32) (v3 : Int32) (s0 : Int32) (μ : JMu) : JF m9_least 4 mPl (fun b : Int32 × JMu => (some (.int b.1), b.2)) 60 [some (.ref 86), some (.int (v1)), none, some (.int (v3))] [.int (s0)] μ (f9_least_b60 k20 v1 v3 s0 μ) := by
  unfold f9_least_b60
  refine J_istore_n dX9_least_60  (by decide) rfl ?_
  refine J_iinc dX9_least_61 rfl (c0 := (1 : Int32)) rfl (by decide) rfl ?_
  refine J_goto dX9_least_64 (tgt := 20) (by decide) ?_
  exact hk20 _ _ _ _
set_option maxRecDepth 20000 in
theorem c9_least_b59 (k20 : Int32 → Int32 → Int32 → JMu → Option (Int32 × JMu)) (hk20 : ∀ (v1 : Int32) (v2 : Int32) (v3 : Int32) (μ : JMu), JF m9_least 4 mPl (fun b : Int32 × JMu => (some (.int b.1), b.2)) 20 [some (.ref 86), some (.int (v1)), some (.int (v2)), some (.int (v3))] [] μ (k20 v1 v2 v3 μ)) (v1 : Int32) (v2 : Int32) (v3 : Int32) (μ : JMu) : JF m9_least 4 mPl (fun b : Int32 × JMu => (some (.int b.1), b.2)) 59 [some (.ref 86), some (.int (v1)), some (.int (v2)), some (.int (v3))] [] μ (f9_least_b59 k20 v1 v2 v3 μ) := by
  unfold f9_least_b59
  refine J_iload_n dX9_least_59 rfl ?_
  refine JF_drop [2] ?_
  exact c9_least_b60 k20 hk20 _ _ _ _
set_option maxRecDepth 20000 in
theorem c9_least_b47 (k20 : Int32 → Int32 → Int32 → JMu → Option (Int32 × JMu)) (hk20 : ∀ (v1 : Int32) (v2 : Int32) (v3 : Int32) (μ : JMu), JF m9_least 4 mPl (fun b : Int32 × JMu => (some (.int b.1), b.2)) 20 [some (.ref 86), some (.int (v1)), some (.int (v2)), some (.int (v3))] [] μ (k20 v1 v2 v3 μ)) (v1 : Int32) (v2 : Int32) (v3 : Int32) (μ : JMu) : JF m9_least 4 mPl (fun b : Int32 × JMu => (some (.int b.1), b.2)) 47 [some (.ref 86), some (.int (v1)), some (.int (v2)), some (.int (v3))] [] μ (f9_least_b47 k20 v1 v2 v3 μ) := by
  unfold f9_least_b47
  refine J_aload_n dX9_least_47 rfl ?_
  refine J_iload_n dX9_least_48 rfl ?_
  refine J_callV_i (M' := m9_clashBut) (as := [_]) dX9_least_49 lX9_272 sm9_clashBut sm9_clashBut_w jo_mPl_86 hci_X9 (by decide) rfl (Nat.le_of_ble_eq_true rfl) (c9_clashBut _ _) (fun r14 => ?_)
  refine J_if_ne dX9_least_52 (tgt := 59) (by decide) (fun c15 => ?_) (fun c15 => ?_)
  · refine J_iload_n dX9_least_55 rfl ?_
    refine J_goto dX9_least_56 (tgt := 60) (by decide) ?_
    refine JF_drop [2] ?_
    exact c9_least_b60 k20 hk20 _ _ _ _
  · exact c9_least_b59 k20 hk20 _ _ _ _
set_option maxRecDepth 20000 in
theorem c9_least_b20 (n : Nat) : ∀ (v1 : Int32) (v2 : Int32) (v3 : Int32) (μ : JMu), JF m9_least 4 mPl (fun b : Int32 × JMu => (some (.int b.1), b.2)) 20 [some (.ref 86), some (.int (v1)), some (.int (v2)), some (.int (v3))] [] μ (f9_least_b20 n v1 v2 v3 μ) := by
  induction n with
  | zero => intros; exact JF_none
  | succ n ih =>
    intro v1 v2 v3 μ
    rw [f9_least_b20]
    refine J_iload_n dX9_least_20 rfl ?_
    refine J_iconst dX9_least_21 (v := (1 : Int32)) rfl ?_
    refine J_aload_n dX9_least_22 rfl ?_
    refine J_getR dX9_least_23 wX9_9 rfl jo_mPl_86 jr_86_0 ?_
    refine J_iconst dX9_least_26 (v := (1 : Int32)) rfl ?_
    refine J_iald dX9_least_27 ji_mPl_87 jl_87 (jin_spec (by decide)) (j := 1) rfl ?_
    refine J_ishl dX9_least_28 ?_
    refine J_icmp_ge dX9_least_29 (tgt := 67) (by decide) (fun c16 => ?_) (fun c16 => ?_)
    · refine J_iload_n dX9_least_67 rfl ?_
      refine J_if_ne dX9_least_68 (tgt := 78) (by decide) (fun c17 => ?_) (fun c17 => ?_)
      · refine J_iload_n dX9_least_71 rfl ?_
        refine J_callS_i (M' := m9_bits) (as := [_]) dX9_least_72 lX9_189 sm9_bits sm9_bits_w (by decide) rfl (Nat.le_of_ble_eq_true rfl) (c9_bits _ _) (fun r18 => ?_)
        refine J_goto dX9_least_75 (tgt := 79) (by decide) ?_
        exact J_iret dX9_least_79 rfl rfl
      · refine J_iload_n dX9_least_78 rfl ?_
        exact J_iret dX9_least_79 rfl rfl
    · refine J_iload_n dX9_least_32 rfl ?_
      refine J_if_lt dX9_least_33 (tgt := 47) (by decide) (fun c19 => ?_) (fun c19 => ?_)
      · exact c9_least_b47 _ ih _ _ _ _
      · refine J_iload_n dX9_least_36 rfl ?_
        refine J_callS_i (M' := m9_bits) (as := [_]) dX9_least_37 lX9_189 sm9_bits sm9_bits_w (by decide) rfl (Nat.le_of_ble_eq_true rfl) (c9_bits _ _) (fun r20 => ?_)
        refine J_iload_n dX9_least_40 rfl ?_
        refine J_callS_i (M' := m9_bits) (as := [_]) dX9_least_41 lX9_189 sm9_bits sm9_bits_w (by decide) rfl (Nat.le_of_ble_eq_true rfl) (c9_bits _ _) (fun r21 => ?_)
        refine J_icmp_ge dX9_least_44 (tgt := 59) (by decide) (fun c22 => ?_) (fun c22 => ?_)
        · exact c9_least_b59 _ ih _ _ _ _
        · exact c9_least_b47 _ ih _ _ _ _
set_option maxRecDepth 20000 in
theorem c9_least (a1 : Int32) (μ : JMu) : ∀ b, f9_least a1 μ = some b → JC m9_least 4 mPl [.ref 86, .int (a1)] μ (some (.int b.1), b.2) := by
  refine JC_of (emb := (fun b : Int32 × JMu => (some (.int b.1), b.2))) (L0 := [some (.ref 86), some (.int (a1)), none, none]) sm9_least (Nat.le_of_ble_eq_true rfl) rfl ?_
  unfold f9_least
  refine J_iload_n dX9_least_0 rfl ?_
  refine J_iconst dX9_least_1 (v := (0 : Int32)) rfl ?_
  refine J_iconst dX9_least_2 (v := (1 : Int32)) rfl ?_
  refine J_callS_i (M' := m9_within) (as := [_, _, _]) dX9_least_3 lX9_76 sm9_within sm9_within_w (by decide) rfl (Nat.le_of_ble_eq_true rfl) (c9_within _ _ _ _) (fun r24 => ?_)
  refine J_if_ne dX9_least_6 (tgt := 16) (by decide) (fun c25 => ?_) (fun c25 => ?_)
  · refine J_aload_n dX9_least_9 rfl ?_
    refine J_ldc dX9_least_10 kX9_80 ?_
    refine J_callV_w (M' := m9_finding) (as := [_]) dX9_least_12 lX9_81 sm9_finding sm9_finding_w jo_mPl_86 hci_X9 (by decide) rfl (Nat.le_of_ble_eq_true rfl) (c9_finding _ _) (fun r26 => ?_)
    exact J_iret dX9_least_15 rfl rfl
  · refine J_iconst dX9_least_16 (v := (-1 : Int32)) rfl ?_
    refine J_istore_n dX9_least_17  (by decide) rfl ?_
    refine J_iconst dX9_least_18 (v := (0 : Int32)) rfl ?_
    refine J_istore_n dX9_least_19  (by decide) rfl ?_
    exact c9_least_b20 jN _ _ _ _
set_option maxRecDepth 20000 in
theorem c9_beside_b56 (k27 : Int32 → Int32 → Int32 → Int32 → JMu → Option (Int32 × JMu)) (hk27 : ∀ (v1 : Int32) (v2 : Int32) (v3 : Int32) (v4 : Int32) (μ : JMu), JF m9_beside 2 mPl (fun b : Int32 × JMu => (some (.int b.1), b.2)) 27 [some (.ref 86), some (.int (v1)), some (.int (v2)), some (.int (v3)), some (.int (v4)), none, none] [] μ (k27 v1 v2 v3 v4 μ)) (v1 : Int32) (v2 : Int32) (v4 : Int32) (s0 : Int32) (s1 : Int32) (μ : JMu) : JF m9_beside 2 mPl (fun b : Int32 × JMu => (some (.int b.1), b.2)) 56 [some (.ref 86), some (.int (v1)), some (.int (v2)), none, some (.int (v4)), none, none] [.int (s0), .int (s1)] μ (f9_beside_b56 k27 v1 v2 v4 s0 s1 μ) := by
  unfold f9_beside_b56
  refine J_ior dX9_beside_56 ?_
  refine J_istore_n dX9_beside_57  (by decide) rfl ?_
  refine J_iinc dX9_beside_58 rfl (c0 := (1 : Int32)) rfl (by decide) rfl ?_
  refine J_goto dX9_beside_61 (tgt := 27) (by decide) ?_
  exact hk27 _ _ _ _ _
set_option maxRecDepth 20000 in
theorem c9_beside_b195 (k70 : Int32 → Int32 → Int32 → Int32 → JMu → Option (Int32 × JMu)) (hk70 : ∀ (v2 : Int32) (v3 : Int32) (v4 : Int32) (v5 : Int32) (μ : JMu), JF m9_beside 2 mPl (fun b : Int32 × JMu => (some (.int b.1), b.2)) 70 [none, none, some (.int (v2)), some (.int (v3)), some (.int (v4)), some (.int (v5)), none] [] μ (k70 v2 v3 v4 v5 μ)) (v2 : Int32) (v3 : Int32) (v5 : Int32) (s0 : Int32) (s1 : Int32) (μ : JMu) : JF m9_beside 2 mPl (fun b : Int32 × JMu => (some (.int b.1), b.2)) 195 [none, none, some (.int (v2)), some (.int (v3)), none, some (.int (v5)), none] [.int (s0), .int (s1)] μ (f9_beside_b195 k70 v2 v3 v5 s0 s1 μ) := by
  unfold f9_beside_b195
  refine J_ior dX9_beside_195 ?_
  refine J_istore dX9_beside_196  (by decide) rfl ?_
  refine J_iinc dX9_beside_198 rfl (c0 := (1 : Int32)) rfl (by decide) rfl ?_
  refine J_goto dX9_beside_201 (tgt := 70) (by decide) ?_
  exact hk70 _ _ _ _ _
set_option maxRecDepth 20000 in
theorem c9_beside_b194 (k70 : Int32 → Int32 → Int32 → Int32 → JMu → Option (Int32 × JMu)) (hk70 : ∀ (v2 : Int32) (v3 : Int32) (v4 : Int32) (v5 : Int32) (μ : JMu), JF m9_beside 2 mPl (fun b : Int32 × JMu => (some (.int b.1), b.2)) 70 [none, none, some (.int (v2)), some (.int (v3)), some (.int (v4)), some (.int (v5)), none] [] μ (k70 v2 v3 v4 v5 μ)) (v2 : Int32) (v3 : Int32) (v5 : Int32) (s0 : Int32) (μ : JMu) : JF m9_beside 2 mPl (fun b : Int32 × JMu => (some (.int b.1), b.2)) 194 [none, none, some (.int (v2)), some (.int (v3)), none, some (.int (v5)), none] [.int (s0)] μ (f9_beside_b194 k70 v2 v3 v5 s0 μ) := by
  unfold f9_beside_b194
  refine J_iconst dX9_beside_194 (v := (0 : Int32)) rfl ?_
  exact c9_beside_b195 k70 hk70 _ _ _ _ _ _
set_option maxRecDepth 20000 in
theorem c9_beside_b160 (k70 : Int32 → Int32 → Int32 → Int32 → JMu → Option (Int32 × JMu)) (hk70 : ∀ (v2 : Int32) (v3 : Int32) (v4 : Int32) (v5 : Int32) (μ : JMu), JF m9_beside 2 mPl (fun b : Int32 × JMu => (some (.int b.1), b.2)) 70 [none, none, some (.int (v2)), some (.int (v3)), some (.int (v4)), some (.int (v5)), none] [] μ (k70 v2 v3 v4 v5 μ)) (v2 : Int32) (v3 : Int32) (v4 : Int32) (v5 : Int32) (s0 : Int32) (μ : JMu) : JF m9_beside 2 mPl (fun b : Int32 × JMu => (some (.int b.1), b.2)) 160 [none, none, some (.int (v2)), some (.int (v3)), some (.int (v4)), some (.int (v5)), none] [.int (s0)] μ (f9_beside_b160 k70 v2 v3 v4 v5 s0 μ) := by
  unfold f9_beside_b160
  refine J_istore dX9_beside_160  (by decide) rfl ?_
  refine J_iload dX9_beside_162 rfl ?_
  refine J_iload dX9_beside_164 rfl ?_
  refine J_if_eq dX9_beside_166 (tgt := 194) (by decide) (fun c27 => ?_) (fun c27 => ?_)
  · refine JF_drop [4, 6] ?_
    exact c9_beside_b194 k70 hk70 _ _ _ _ _
  · refine J_iload_n dX9_beside_169 rfl ?_
    refine J_iload dX9_beside_170 rfl ?_
    refine J_callS_i (M' := m9_hasBit) (as := [_, _]) dX9_beside_172 lX9_182 sm9_hasBit sm9_hasBit_w (by decide) rfl (Nat.le_of_ble_eq_true rfl) (c9_hasBit _ _ _) (fun r28 => ?_)
    refine J_if_eq dX9_beside_175 (tgt := 194) (by decide) (fun c29 => ?_) (fun c29 => ?_)
    · refine JF_drop [4, 6] ?_
      exact c9_beside_b194 k70 hk70 _ _ _ _ _
    · refine J_iload_n dX9_beside_178 rfl ?_
      refine J_iload dX9_beside_179 rfl ?_
      refine J_callS_i (M' := m9_hasBit) (as := [_, _]) dX9_beside_181 lX9_182 sm9_hasBit sm9_hasBit_w (by decide) rfl (Nat.le_of_ble_eq_true rfl) (c9_hasBit _ _ _) (fun r30 => ?_)
      refine J_if_ne dX9_beside_184 (tgt := 194) (by decide) (fun c31 => ?_) (fun c31 => ?_)
      · refine J_iconst dX9_beside_187 (v := (1 : Int32)) rfl ?_
        refine J_iload dX9_beside_188 rfl ?_
        refine J_ishl dX9_beside_190 ?_
        refine J_goto dX9_beside_191 (tgt := 195) (by decide) ?_
        refine JF_drop [4, 6] ?_
        exact c9_beside_b195 k70 hk70 _ _ _ _ _ _
      · refine JF_drop [4, 6] ?_
        exact c9_beside_b194 k70 hk70 _ _ _ _ _
set_option maxRecDepth 20000 in
theorem c9_beside_b155 (k70 : Int32 → Int32 → Int32 → Int32 → JMu → Option (Int32 × JMu)) (hk70 : ∀ (v2 : Int32) (v3 : Int32) (v4 : Int32) (v5 : Int32) (μ : JMu), JF m9_beside 2 mPl (fun b : Int32 × JMu => (some (.int b.1), b.2)) 70 [none, none, some (.int (v2)), some (.int (v3)), some (.int (v4)), some (.int (v5)), none] [] μ (k70 v2 v3 v4 v5 μ)) (v2 : Int32) (v3 : Int32) (v4 : Int32) (v5 : Int32) (μ : JMu) : JF m9_beside 2 mPl (fun b : Int32 × JMu => (some (.int b.1), b.2)) 155 [none, none, some (.int (v2)), some (.int (v3)), some (.int (v4)), some (.int (v5)), none] [] μ (f9_beside_b155 k70 v2 v3 v4 v5 μ) := by
  unfold f9_beside_b155
  refine J_iconst dX9_beside_155 (v := (1 : Int32)) rfl ?_
  refine J_goto dX9_beside_156 (tgt := 160) (by decide) ?_
  exact c9_beside_b160 k70 hk70 _ _ _ _ _ _
set_option maxRecDepth 20000 in
theorem c9_beside_b159 (k70 : Int32 → Int32 → Int32 → Int32 → JMu → Option (Int32 × JMu)) (hk70 : ∀ (v2 : Int32) (v3 : Int32) (v4 : Int32) (v5 : Int32) (μ : JMu), JF m9_beside 2 mPl (fun b : Int32 × JMu => (some (.int b.1), b.2)) 70 [none, none, some (.int (v2)), some (.int (v3)), some (.int (v4)), some (.int (v5)), none] [] μ (k70 v2 v3 v4 v5 μ)) (v2 : Int32) (v3 : Int32) (v4 : Int32) (v5 : Int32) (μ : JMu) : JF m9_beside 2 mPl (fun b : Int32 × JMu => (some (.int b.1), b.2)) 159 [none, none, some (.int (v2)), some (.int (v3)), some (.int (v4)), some (.int (v5)), none] [] μ (f9_beside_b159 k70 v2 v3 v4 v5 μ) := by
  unfold f9_beside_b159
  refine J_iconst dX9_beside_159 (v := (0 : Int32)) rfl ?_
  exact c9_beside_b160 k70 hk70 _ _ _ _ _ _
set_option maxRecDepth 20000 in
theorem c9_beside_b134 (k70 : Int32 → Int32 → Int32 → Int32 → JMu → Option (Int32 × JMu)) (hk70 : ∀ (v2 : Int32) (v3 : Int32) (v4 : Int32) (v5 : Int32) (μ : JMu), JF m9_beside 2 mPl (fun b : Int32 × JMu => (some (.int b.1), b.2)) 70 [none, none, some (.int (v2)), some (.int (v3)), some (.int (v4)), some (.int (v5)), none] [] μ (k70 v2 v3 v4 v5 μ)) (v2 : Int32) (v3 : Int32) (v4 : Int32) (v5 : Int32) (μ : JMu) : JF m9_beside 2 mPl (fun b : Int32 × JMu => (some (.int b.1), b.2)) 134 [none, none, some (.int (v2)), some (.int (v3)), some (.int (v4)), some (.int (v5)), none] [] μ (f9_beside_b134 k70 v2 v3 v4 v5 μ) := by
  unfold f9_beside_b134
  refine J_iload dX9_beside_134 rfl ?_
  refine J_bipush dX9_beside_136 (v := (8 : Int32)) rfl ?_
  refine J_irem dX9_beside_138 (by decide) ?_
  refine J_bipush dX9_beside_139 (v := (7 : Int32)) rfl ?_
  refine J_icmp_ge dX9_beside_141 (tgt := 159) (by decide) (fun c32 => ?_) (fun c32 => ?_)
  · exact c9_beside_b159 k70 hk70 _ _ _ _ _
  · refine J_iload_n dX9_beside_144 rfl ?_
    refine J_iload dX9_beside_145 rfl ?_
    refine J_iconst dX9_beside_147 (v := (1 : Int32)) rfl ?_
    refine J_iadd dX9_beside_148 ?_
    refine J_callS_i (M' := m9_hasBit) (as := [_, _]) dX9_beside_149 lX9_182 sm9_hasBit sm9_hasBit_w (by decide) rfl (Nat.le_of_ble_eq_true rfl) (c9_hasBit _ _ _) (fun r33 => ?_)
    refine J_if_eq dX9_beside_152 (tgt := 159) (by decide) (fun c34 => ?_) (fun c34 => ?_)
    · exact c9_beside_b159 k70 hk70 _ _ _ _ _
    · exact c9_beside_b155 k70 hk70 _ _ _ _ _
set_option maxRecDepth 20000 in
theorem c9_beside_b115 (k70 : Int32 → Int32 → Int32 → Int32 → JMu → Option (Int32 × JMu)) (hk70 : ∀ (v2 : Int32) (v3 : Int32) (v4 : Int32) (v5 : Int32) (μ : JMu), JF m9_beside 2 mPl (fun b : Int32 × JMu => (some (.int b.1), b.2)) 70 [none, none, some (.int (v2)), some (.int (v3)), some (.int (v4)), some (.int (v5)), none] [] μ (k70 v2 v3 v4 v5 μ)) (v2 : Int32) (v3 : Int32) (v4 : Int32) (v5 : Int32) (μ : JMu) : JF m9_beside 2 mPl (fun b : Int32 × JMu => (some (.int b.1), b.2)) 115 [none, none, some (.int (v2)), some (.int (v3)), some (.int (v4)), some (.int (v5)), none] [] μ (f9_beside_b115 k70 v2 v3 v4 v5 μ) := by
  unfold f9_beside_b115
  refine J_iload dX9_beside_115 rfl ?_
  refine J_bipush dX9_beside_117 (v := (8 : Int32)) rfl ?_
  refine J_irem dX9_beside_119 (by decide) ?_
  refine J_if_le dX9_beside_120 (tgt := 134) (by decide) (fun c35 => ?_) (fun c35 => ?_)
  · exact c9_beside_b134 k70 hk70 _ _ _ _ _
  · refine J_iload_n dX9_beside_123 rfl ?_
    refine J_iload dX9_beside_124 rfl ?_
    refine J_iconst dX9_beside_126 (v := (1 : Int32)) rfl ?_
    refine J_isub dX9_beside_127 ?_
    refine J_callS_i (M' := m9_hasBit) (as := [_, _]) dX9_beside_128 lX9_182 sm9_hasBit sm9_hasBit_w (by decide) rfl (Nat.le_of_ble_eq_true rfl) (c9_hasBit _ _ _) (fun r36 => ?_)
    refine J_if_ne dX9_beside_131 (tgt := 155) (by decide) (fun c37 => ?_) (fun c37 => ?_)
    · exact c9_beside_b134 k70 hk70 _ _ _ _ _
    · exact c9_beside_b155 k70 hk70 _ _ _ _ _
set_option maxRecDepth 20000 in
theorem c9_beside_b96 (k70 : Int32 → Int32 → Int32 → Int32 → JMu → Option (Int32 × JMu)) (hk70 : ∀ (v2 : Int32) (v3 : Int32) (v4 : Int32) (v5 : Int32) (μ : JMu), JF m9_beside 2 mPl (fun b : Int32 × JMu => (some (.int b.1), b.2)) 70 [none, none, some (.int (v2)), some (.int (v3)), some (.int (v4)), some (.int (v5)), none] [] μ (k70 v2 v3 v4 v5 μ)) (v2 : Int32) (v3 : Int32) (v4 : Int32) (v5 : Int32) (μ : JMu) : JF m9_beside 2 mPl (fun b : Int32 × JMu => (some (.int b.1), b.2)) 96 [none, none, some (.int (v2)), some (.int (v3)), some (.int (v4)), some (.int (v5)), none] [] μ (f9_beside_b96 k70 v2 v3 v4 v5 μ) := by
  unfold f9_beside_b96
  refine J_iload dX9_beside_96 rfl ?_
  refine J_bipush dX9_beside_98 (v := (16 : Int32)) rfl ?_
  refine J_icmp_ge dX9_beside_100 (tgt := 115) (by decide) (fun c38 => ?_) (fun c38 => ?_)
  · exact c9_beside_b115 k70 hk70 _ _ _ _ _
  · refine J_iload_n dX9_beside_103 rfl ?_
    refine J_iload dX9_beside_104 rfl ?_
    refine J_bipush dX9_beside_106 (v := (8 : Int32)) rfl ?_
    refine J_iadd dX9_beside_108 ?_
    refine J_callS_i (M' := m9_hasBit) (as := [_, _]) dX9_beside_109 lX9_182 sm9_hasBit sm9_hasBit_w (by decide) rfl (Nat.le_of_ble_eq_true rfl) (c9_hasBit _ _ _) (fun r39 => ?_)
    refine J_if_ne dX9_beside_112 (tgt := 155) (by decide) (fun c40 => ?_) (fun c40 => ?_)
    · exact c9_beside_b115 k70 hk70 _ _ _ _ _
    · exact c9_beside_b155 k70 hk70 _ _ _ _ _
set_option maxRecDepth 20000 in
theorem c9_beside_b70 (n : Nat) : ∀ (v2 : Int32) (v3 : Int32) (v4 : Int32) (v5 : Int32) (μ : JMu), JF m9_beside 2 mPl (fun b : Int32 × JMu => (some (.int b.1), b.2)) 70 [none, none, some (.int (v2)), some (.int (v3)), some (.int (v4)), some (.int (v5)), none] [] μ (f9_beside_b70 n v2 v3 v4 v5 μ) := by
  induction n with
  | zero => intros; exact JF_none
  | succ n ih =>
    intro v2 v3 v4 v5 μ
    rw [f9_beside_b70]
    refine J_iload dX9_beside_70 rfl ?_
    refine J_bipush dX9_beside_72 (v := (24 : Int32)) rfl ?_
    refine J_icmp_ge dX9_beside_74 (tgt := 204) (by decide) (fun c41 => ?_) (fun c41 => ?_)
    · refine J_iload dX9_beside_204 rfl ?_
      exact J_iret dX9_beside_206 rfl rfl
    · refine J_iload dX9_beside_77 rfl ?_
      refine J_bipush dX9_beside_79 (v := (8 : Int32)) rfl ?_
      refine J_icmp_lt dX9_beside_81 (tgt := 96) (by decide) (fun c42 => ?_) (fun c42 => ?_)
      · exact c9_beside_b96 _ ih _ _ _ _ _
      · refine J_iload_n dX9_beside_84 rfl ?_
        refine J_iload dX9_beside_85 rfl ?_
        refine J_bipush dX9_beside_87 (v := (8 : Int32)) rfl ?_
        refine J_isub dX9_beside_89 ?_
        refine J_callS_i (M' := m9_hasBit) (as := [_, _]) dX9_beside_90 lX9_182 sm9_hasBit sm9_hasBit_w (by decide) rfl (Nat.le_of_ble_eq_true rfl) (c9_hasBit _ _ _) (fun r43 => ?_)
        refine J_if_ne dX9_beside_93 (tgt := 155) (by decide) (fun c44 => ?_) (fun c44 => ?_)
        · exact c9_beside_b96 _ ih _ _ _ _ _
        · exact c9_beside_b155 _ ih _ _ _ _ _
set_option maxRecDepth 20000 in
theorem c9_beside_b27 (n : Nat) : ∀ (v1 : Int32) (v2 : Int32) (v3 : Int32) (v4 : Int32) (μ : JMu), JF m9_beside 2 mPl (fun b : Int32 × JMu => (some (.int b.1), b.2)) 27 [some (.ref 86), some (.int (v1)), some (.int (v2)), some (.int (v3)), some (.int (v4)), none, none] [] μ (f9_beside_b27 n v1 v2 v3 v4 μ) := by
  induction n with
  | zero => intros; exact JF_none
  | succ n ih =>
    intro v1 v2 v3 v4 μ
    rw [f9_beside_b27]
    refine J_iload dX9_beside_27 rfl ?_
    refine J_aload_n dX9_beside_29 rfl ?_
    refine J_getR dX9_beside_30 wX9_9 rfl jo_mPl_86 jr_86_0 ?_
    refine J_iconst dX9_beside_33 (v := (1 : Int32)) rfl ?_
    refine J_iald dX9_beside_34 ji_mPl_87 jl_87 (jin_spec (by decide)) (j := 1) rfl ?_
    refine J_icmp_ge dX9_beside_35 (tgt := 64) (by decide) (fun c45 => ?_) (fun c45 => ?_)
    · refine J_iconst dX9_beside_64 (v := (0 : Int32)) rfl ?_
      refine J_istore dX9_beside_65  (by decide) rfl ?_
      refine J_iconst dX9_beside_67 (v := (0 : Int32)) rfl ?_
      refine J_istore dX9_beside_68  (by decide) rfl ?_
      refine JF_drop [0, 1] ?_
      exact c9_beside_b70 jN _ _ _ _ _
    · refine J_iload_n dX9_beside_38 rfl ?_
      refine J_iload dX9_beside_39 rfl ?_
      refine J_iload_n dX9_beside_41 rfl ?_
      refine J_icmp_ne dX9_beside_42 (tgt := 49) (by decide) (fun c46 => ?_) (fun c46 => ?_)
      · refine J_iconst dX9_beside_45 (v := (0 : Int32)) rfl ?_
        refine J_goto dX9_beside_46 (tgt := 56) (by decide) ?_
        refine JF_drop [3] ?_
        exact c9_beside_b56 _ ih _ _ _ _ _ _
      · refine J_aload_n dX9_beside_49 rfl ?_
        refine J_iload dX9_beside_50 rfl ?_
        refine J_iconst dX9_beside_52 (v := (2 : Int32)) rfl ?_
        refine J_callV_i (M' := m9_tenantIs) (as := [_, _]) dX9_beside_53 lX9_179 sm9_tenantIs sm9_tenantIs_w jo_mPl_86 hci_X9 (by decide) rfl (Nat.le_of_ble_eq_true rfl) (c9_tenantIs _ _ _) (fun r47 => ?_)
        refine JF_drop [3] ?_
        exact c9_beside_b56 _ ih _ _ _ _ _ _
set_option maxRecDepth 20000 in
theorem c9_beside (a1 : Int32) (μ : JMu) : ∀ b, f9_beside a1 μ = some b → JC m9_beside 2 mPl [.ref 86, .int (a1)] μ (some (.int b.1), b.2) := by
  refine JC_of (emb := (fun b : Int32 × JMu => (some (.int b.1), b.2))) (L0 := [some (.ref 86), some (.int (a1)), none, none, none, none, none]) sm9_beside (Nat.le_of_ble_eq_true rfl) rfl ?_
  unfold f9_beside
  refine J_aload_n dX9_beside_0 rfl ?_
  refine J_iload_n dX9_beside_1 rfl ?_
  refine J_callV_i (M' := m9_isTenant) (as := [_]) dX9_beside_2 lX9_227 sm9_isTenant sm9_isTenant_w jo_mPl_86 hci_X9 (by decide) rfl (Nat.le_of_ble_eq_true rfl) (c9_isTenant _ _) (fun r49 => ?_)
  refine J_if_ne dX9_beside_5 (tgt := 15) (by decide) (fun c50 => ?_) (fun c50 => ?_)
  · refine J_aload_n dX9_beside_8 rfl ?_
    refine J_ldc dX9_beside_9 kX9_80 ?_
    refine J_callV_w (M' := m9_finding) (as := [_]) dX9_beside_11 lX9_81 sm9_finding sm9_finding_w jo_mPl_86 hci_X9 (by decide) rfl (Nat.le_of_ble_eq_true rfl) (c9_finding _ _) (fun r52 => ?_)
    exact J_iret dX9_beside_14 rfl rfl
  · refine J_aload_n dX9_beside_15 rfl ?_
    refine J_iload_n dX9_beside_16 rfl ?_
    refine J_iconst dX9_beside_17 (v := (2 : Int32)) rfl ?_
    refine J_callV_i (M' := m9_tenantIs) (as := [_, _]) dX9_beside_18 lX9_179 sm9_tenantIs sm9_tenantIs_w jo_mPl_86 hci_X9 (by decide) rfl (Nat.le_of_ble_eq_true rfl) (c9_tenantIs _ _ _) (fun r51 => ?_)
    refine J_istore_n dX9_beside_21  (by decide) rfl ?_
    refine J_iconst dX9_beside_22 (v := (0 : Int32)) rfl ?_
    refine J_istore_n dX9_beside_23  (by decide) rfl ?_
    refine J_iconst dX9_beside_24 (v := (0 : Int32)) rfl ?_
    refine J_istore dX9_beside_25  (by decide) rfl ?_
    exact c9_beside_b27 jN _ _ _ _ _
set_option maxRecDepth 20000 in
theorem c9_gets_b66 (k : Nat) (r0 : Int32 → JMu → Option (Int32 × JMu)) (hr0 : ∀ (a1 : Int32) (μ : JMu) (b : Int32 × JMu), r0 a1 μ = some b → JC m9_gets (1 + k) mPl [.ref 86, .int a1] μ (some (.int b.1), b.2)) (v1 : Int32) (v2 : Int32) (μ : JMu) : JF m9_gets (1 + k + 1) mPl (fun b : Int32 × JMu => (some (.int b.1), b.2)) 66 [some (.ref 86), some (.int (v1)), some (.int (v2))] [] μ (f9_gets_b66 r0 v1 v2 μ) := by
  unfold f9_gets_b66
  refine J_aload_n dX9_gets_66 rfl ?_
  refine J_getR dX9_gets_67 wX9_44 rfl jo_mPl_86 jr_86_15 ?_
  refine J_iload_n dX9_gets_70 rfl ?_
  refine J_iload_n dX9_gets_71 rfl ?_
  refine JF_chk (fun c13 => ?_)
  refine J_iast dX9_gets_72 ji_mPl_96 jl_96 (jin_spec c13) rfl ?_
  refine J_iconst dX9_gets_73 (v := (1 : Int32)) rfl ?_
  exact J_zret dX9_gets_74 rfl (Or.inr rfl) rfl
set_option maxRecDepth 20000 in
theorem c9_gets_b2 (k : Nat) (r0 : Int32 → JMu → Option (Int32 × JMu)) (hr0 : ∀ (a1 : Int32) (μ : JMu) (b : Int32 × JMu), r0 a1 μ = some b → JC m9_gets (1 + k) mPl [.ref 86, .int a1] μ (some (.int b.1), b.2)) (n : Nat) : ∀ (v1 : Int32) (v2 : Int32) (μ : JMu), JF m9_gets (1 + k + 1) mPl (fun b : Int32 × JMu => (some (.int b.1), b.2)) 2 [some (.ref 86), some (.int (v1)), some (.int (v2))] [] μ (f9_gets_b2 r0 n v1 v2 μ) := by
  induction n with
  | zero => intros; exact JF_none
  | succ n ih =>
    intro v1 v2 μ
    rw [f9_gets_b2]
    refine J_iload_n dX9_gets_2 rfl ?_
    refine J_bipush dX9_gets_3 (v := (24 : Int32)) rfl ?_
    refine J_icmp_ge dX9_gets_5 (tgt := 81) (by decide) (fun c14 => ?_) (fun c14 => ?_)
    · refine J_iconst dX9_gets_81 (v := (0 : Int32)) rfl ?_
      exact J_zret dX9_gets_82 rfl (Or.inl rfl) rfl
    · refine J_aload_n dX9_gets_8 rfl ?_
      refine J_getR dX9_gets_9 wX9_41 rfl jo_mPl_86 jr_86_14 ?_
      refine J_iload_n dX9_gets_12 rfl ?_
      refine JF_chk (fun c24 => ?_)
      refine J_iald dX9_gets_13 ji_mPl_95 jl_95 (jin_spec c24) rfl ?_
      refine J_iload_n dX9_gets_14 rfl ?_
      refine J_callS_i (M' := m9_hasBit) (as := [_, _]) dX9_gets_15 lX9_182 sm9_hasBit sm9_hasBit_w (by omega) rfl (Nat.le_of_ble_eq_true rfl) (c9_hasBit _ _ _) (fun r15 => ?_)
      refine J_if_eq dX9_gets_18 (tgt := 75) (by decide) (fun c16 => ?_) (fun c16 => ?_)
      · refine J_iinc dX9_gets_75 rfl (c0 := (1 : Int32)) rfl (by decide) rfl ?_
        refine J_goto dX9_gets_78 (tgt := 2) (by decide) ?_
        exact ih _ _ _
      · refine J_aload_n dX9_gets_21 rfl ?_
        refine J_getI dX9_gets_22 wX9_275 rfl jo_mPl_86 ?_
        refine J_iload_n dX9_gets_25 rfl ?_
        refine J_callS_i (M' := m9_hasBit) (as := [_, _]) dX9_gets_26 lX9_182 sm9_hasBit sm9_hasBit_w (by omega) rfl (Nat.le_of_ble_eq_true rfl) (c9_hasBit _ _ _) (fun r17 => ?_)
        refine J_if_ne dX9_gets_29 (tgt := 75) (by decide) (fun c18 => ?_) (fun c18 => ?_)
        · refine J_aload_n dX9_gets_32 rfl ?_
          refine J_dup dX9_gets_33 rfl ?_
          refine J_getI dX9_gets_34 wX9_275 rfl jo_mPl_86 ?_
          refine J_iconst dX9_gets_37 (v := (1 : Int32)) rfl ?_
          refine J_iload_n dX9_gets_38 rfl ?_
          refine J_ishl dX9_gets_39 ?_
          refine J_ior dX9_gets_40 ?_
          refine J_putI dX9_gets_41 wX9_275 rfl jo_mPl_86 ?_
          refine J_aload_n dX9_gets_44 rfl ?_
          refine J_getR dX9_gets_45 wX9_44 rfl jo_mPl_86 jr_86_15 ?_
          refine J_iload_n dX9_gets_48 rfl ?_
          refine JF_chk (fun c23 => ?_)
          refine J_iald dX9_gets_49 ji_mPl_96 jl_96 (jin_spec c23) rfl ?_
          refine J_if_lt dX9_gets_50 (tgt := 66) (by decide) (fun c19 => ?_) (fun c19 => ?_)
          · exact c9_gets_b66 k r0 hr0 _ _ _
          · refine J_aload_n dX9_gets_53 rfl ?_
            refine J_aload_n dX9_gets_54 rfl ?_
            refine J_getR dX9_gets_55 wX9_44 rfl jo_mPl_86 jr_86_15 ?_
            refine J_iload_n dX9_gets_58 rfl ?_
            refine JF_chk (fun c22 => ?_)
            refine J_iald dX9_gets_59 ji_mPl_96 jl_96 (jin_spec c22) rfl ?_
            refine J_callV_w (M' := m9_gets) (as := [_]) dX9_gets_60 lX9_278 sm9_gets sm9_gets_w jo_mPl_86 hci_X9 (by omega) rfl (Nat.le_of_ble_eq_true rfl) (hr0 _ _) (fun r20 => ?_)
            refine J_if_eq dX9_gets_63 (tgt := 75) (by decide) (fun c21 => ?_) (fun c21 => ?_)
            · refine J_iinc dX9_gets_75 rfl (c0 := (1 : Int32)) rfl (by decide) rfl ?_
              refine J_goto dX9_gets_78 (tgt := 2) (by decide) ?_
              exact ih _ _ _
            · exact c9_gets_b66 k r0 hr0 _ _ _
        · refine J_iinc dX9_gets_75 rfl (c0 := (1 : Int32)) rfl (by decide) rfl ?_
          refine J_goto dX9_gets_78 (tgt := 2) (by decide) ?_
          exact ih _ _ _
set_option maxRecDepth 20000 in
theorem c9_gets_o (k : Nat) (r0 : Int32 → JMu → Option (Int32 × JMu)) (hr0 : ∀ (a1 : Int32) (μ : JMu) (b : Int32 × JMu), r0 a1 μ = some b → JC m9_gets (1 + k) mPl [.ref 86, .int a1] μ (some (.int b.1), b.2)) (a1 : Int32) (μ : JMu) : ∀ b, f9_gets_o r0 a1 μ = some b → JC m9_gets (1 + k + 1) mPl [.ref 86, .int (a1)] μ (some (.int b.1), b.2) := by
  refine JC_of (emb := (fun b : Int32 × JMu => (some (.int b.1), b.2))) (L0 := [some (.ref 86), some (.int (a1)), none]) sm9_gets (Nat.le_of_ble_eq_true rfl) rfl ?_
  unfold f9_gets_o
  refine J_iconst dX9_gets_0 (v := (0 : Int32)) rfl ?_
  refine J_istore_n dX9_gets_1  (by decide) rfl ?_
  exact c9_gets_b2 k r0 hr0 jN _ _ _
theorem cgf9_gets : ∀ k : Nat, (∀ (a1 : Int32) (μ : JMu) (b : Int32 × JMu), (gf9_gets k) a1 μ = some b → JC m9_gets (1 + k) mPl [.ref 86, .int a1] μ (some (.int b.1), b.2)) := by
  intro k
  induction k with
  | zero => exact fun _ _ _ h => (by cases h)
  | succ k ih =>
    exact fun x0 μ b h => c9_gets_o k _ (ih) x0 μ b h
theorem c9_gets : ∀ (a1 : Int32) (μ : JMu) (b : Int32 × JMu), f9_gets a1 μ = some b → JC m9_gets (1 + jK) mPl [.ref 86, .int a1] μ (some (.int b.1), b.2) := (cgf9_gets jK)
set_option maxRecDepth 20000 in
theorem c9_mostRooms_b54 (k25 : Int32 → Int32 → JMu → Option (Int32 × JMu)) (hk25 : ∀ (v1 : Int32) (v2 : Int32) (μ : JMu), JF m9_mostRooms 102 mPl (fun b : Int32 × JMu => (some (.int b.1), b.2)) 25 [some (.ref 86), some (.int (v1)), some (.int (v2))] [] μ (k25 v1 v2 μ)) (v2 : Int32) (s0 : Int32) (s1 : Int32) (μ : JMu) : JF m9_mostRooms 102 mPl (fun b : Int32 × JMu => (some (.int b.1), b.2)) 54 [some (.ref 86), none, some (.int (v2))] [.int (s0), .int (s1)] μ (f9_mostRooms_b54 k25 v2 s0 s1 μ) := by
  unfold f9_mostRooms_b54
  refine J_iadd dX9_mostRooms_54 ?_
  refine J_istore_n dX9_mostRooms_55  (by decide) rfl ?_
  refine J_iinc dX9_mostRooms_56 rfl (c0 := (1 : Int32)) rfl (by decide) rfl ?_
  refine J_goto dX9_mostRooms_59 (tgt := 25) (by decide) ?_
  exact hk25 _ _ _
set_option maxRecDepth 20000 in
theorem c9_mostRooms_b25 (n : Nat) : ∀ (v1 : Int32) (v2 : Int32) (μ : JMu), JF m9_mostRooms 102 mPl (fun b : Int32 × JMu => (some (.int b.1), b.2)) 25 [some (.ref 86), some (.int (v1)), some (.int (v2))] [] μ (f9_mostRooms_b25 n v1 v2 μ) := by
  induction n with
  | zero => intros; exact JF_none
  | succ n ih =>
    intro v1 v2 μ
    rw [f9_mostRooms_b25]
    refine J_iload_n dX9_mostRooms_25 rfl ?_
    refine J_aload_n dX9_mostRooms_26 rfl ?_
    refine J_getR dX9_mostRooms_27 wX9_9 rfl jo_mPl_86 jr_86_0 ?_
    refine J_iconst dX9_mostRooms_30 (v := (1 : Int32)) rfl ?_
    refine J_iald dX9_mostRooms_31 ji_mPl_87 jl_87 (jin_spec (by decide)) (j := 1) rfl ?_
    refine J_icmp_ge dX9_mostRooms_32 (tgt := 62) (by decide) (fun c7 => ?_) (fun c7 => ?_)
    · refine J_iload_n dX9_mostRooms_62 rfl ?_
      exact J_iret dX9_mostRooms_63 rfl rfl
    · refine J_aload_n dX9_mostRooms_35 rfl ?_
      refine J_iconst dX9_mostRooms_36 (v := (0 : Int32)) rfl ?_
      refine J_putI dX9_mostRooms_37 wX9_275 rfl jo_mPl_86 ?_
      refine J_iload_n dX9_mostRooms_40 rfl ?_
      refine J_aload_n dX9_mostRooms_41 rfl ?_
      refine J_iload_n dX9_mostRooms_42 rfl ?_
      refine J_callV_w (M' := m9_gets) (as := [_]) dX9_mostRooms_43 lX9_278 sm9_gets sm9_gets_w jo_mPl_86 hci_X9 (by decide) rfl (Nat.le_of_ble_eq_true rfl) (c9_gets _ _) (fun r8 => ?_)
      refine J_if_eq dX9_mostRooms_46 (tgt := 53) (by decide) (fun c9 => ?_) (fun c9 => ?_)
      · refine J_iconst dX9_mostRooms_53 (v := (0 : Int32)) rfl ?_
        refine JF_drop [1] ?_
        exact c9_mostRooms_b54 _ ih _ _ _ _
      · refine J_iconst dX9_mostRooms_49 (v := (1 : Int32)) rfl ?_
        refine J_goto dX9_mostRooms_50 (tgt := 54) (by decide) ?_
        refine JF_drop [1] ?_
        exact c9_mostRooms_b54 _ ih _ _ _ _
set_option maxRecDepth 20000 in
theorem c9_mostRooms_b2 (n : Nat) : ∀ (v1 : Int32) (μ : JMu), JF m9_mostRooms 102 mPl (fun b : Int32 × JMu => (some (.int b.1), b.2)) 2 [some (.ref 86), some (.int (v1)), none] [] μ (f9_mostRooms_b2 n v1 μ) := by
  induction n with
  | zero => intros; exact JF_none
  | succ n ih =>
    intro v1 μ
    rw [f9_mostRooms_b2]
    refine J_iload_n dX9_mostRooms_2 rfl ?_
    refine J_bipush dX9_mostRooms_3 (v := (24 : Int32)) rfl ?_
    refine J_icmp_ge dX9_mostRooms_5 (tgt := 21) (by decide) (fun c11 => ?_) (fun c11 => ?_)
    · refine J_iconst dX9_mostRooms_21 (v := (0 : Int32)) rfl ?_
      refine J_istore_n dX9_mostRooms_22  (by decide) rfl ?_
      refine J_iconst dX9_mostRooms_23 (v := (0 : Int32)) rfl ?_
      refine J_istore_n dX9_mostRooms_24  (by decide) rfl ?_
      exact c9_mostRooms_b25 jN _ _ _
    · refine J_aload_n dX9_mostRooms_8 rfl ?_
      refine J_getR dX9_mostRooms_9 wX9_44 rfl jo_mPl_86 jr_86_15 ?_
      refine J_iload_n dX9_mostRooms_12 rfl ?_
      refine J_iconst dX9_mostRooms_13 (v := (-1 : Int32)) rfl ?_
      refine JF_chk (fun c12 => ?_)
      refine J_iast dX9_mostRooms_14 ji_mPl_96 jl_96 (jin_spec c12) rfl ?_
      refine J_iinc dX9_mostRooms_15 rfl (c0 := (1 : Int32)) rfl (by decide) rfl ?_
      refine J_goto dX9_mostRooms_18 (tgt := 2) (by decide) ?_
      exact ih _ _
set_option maxRecDepth 20000 in
theorem c9_mostRooms (μ : JMu) : ∀ b, f9_mostRooms  μ = some b → JC m9_mostRooms 102 mPl [.ref 86] μ (some (.int b.1), b.2) := by
  refine JC_of (emb := (fun b : Int32 × JMu => (some (.int b.1), b.2))) (L0 := [some (.ref 86), none, none]) sm9_mostRooms (Nat.le_of_ble_eq_true rfl) rfl ?_
  unfold f9_mostRooms
  refine J_iconst dX9_mostRooms_0 (v := (0 : Int32)) rfl ?_
  refine J_istore_n dX9_mostRooms_1  (by decide) rfl ?_
  exact c9_mostRooms_b2 jN _ _
set_option maxRecDepth 20000 in
theorem c9_isAlone_b33 (μ : JMu) (k4 : Int32 → Int32 → Int32 → JMu → Option (Int32)) (hk4 : ∀ (v1 : Int32) (v2 : Int32) (v3 : Int32), JF m9_isAlone 0 mPl (fun b : Int32 => (some (.int b), μ)) 4 [some (.ref 86), some (.int (v1)), some (.int (v2)), some (.int (v3))] [] μ (k4 v1 v2 v3 μ)) (v1 : Int32) (v3 : Int32) (s0 : Int32) : JF m9_isAlone 0 mPl (fun b : Int32 => (some (.int b), μ)) 33 [some (.ref 86), some (.int (v1)), none, some (.int (v3))] [.int (s0)] μ (f9_isAlone_b33 k4 v1 v3 s0 μ) := by
  unfold f9_isAlone_b33
  refine J_istore_n dX9_isAlone_33  (by decide) rfl ?_
  refine J_iinc dX9_isAlone_34 rfl (c0 := (1 : Int32)) rfl (by decide) rfl ?_
  refine J_goto dX9_isAlone_37 (tgt := 4) (by decide) ?_
  exact hk4 _ _ _
set_option maxRecDepth 20000 in
theorem c9_isAlone_b32 (μ : JMu) (k4 : Int32 → Int32 → Int32 → JMu → Option (Int32)) (hk4 : ∀ (v1 : Int32) (v2 : Int32) (v3 : Int32), JF m9_isAlone 0 mPl (fun b : Int32 => (some (.int b), μ)) 4 [some (.ref 86), some (.int (v1)), some (.int (v2)), some (.int (v3))] [] μ (k4 v1 v2 v3 μ)) (v1 : Int32) (v3 : Int32) : JF m9_isAlone 0 mPl (fun b : Int32 => (some (.int b), μ)) 32 [some (.ref 86), some (.int (v1)), none, some (.int (v3))] [] μ (f9_isAlone_b32 k4 v1 v3 μ) := by
  unfold f9_isAlone_b32
  refine J_iconst dX9_isAlone_32 (v := (0 : Int32)) rfl ?_
  exact c9_isAlone_b33 μ k4 hk4 _ _ _
set_option maxRecDepth 20000 in
theorem c9_isAlone_b4 (μ : JMu) (n : Nat) : ∀ (v1 : Int32) (v2 : Int32) (v3 : Int32), JF m9_isAlone 0 mPl (fun b : Int32 => (some (.int b), μ)) 4 [some (.ref 86), some (.int (v1)), some (.int (v2)), some (.int (v3))] [] μ (f9_isAlone_b4 n v1 v2 v3 μ) := by
  induction n with
  | zero => intros; exact JF_none
  | succ n ih =>
    intro v1 v2 v3
    rw [f9_isAlone_b4]
    refine J_iload_n dX9_isAlone_4 rfl ?_
    refine J_iload_n dX9_isAlone_5 rfl ?_
    refine J_icmp_ge dX9_isAlone_6 (tgt := 40) (by decide) (fun c7 => ?_) (fun c7 => ?_)
    · refine J_iload_n dX9_isAlone_40 rfl ?_
      refine JF_chk (fun c8 => ?_)
      exact J_zret dX9_isAlone_41 rfl c8 rfl
    · refine J_iload_n dX9_isAlone_9 rfl ?_
      refine J_if_eq dX9_isAlone_10 (tgt := 32) (by decide) (fun c9 => ?_) (fun c9 => ?_)
      · refine JF_drop [2] ?_
        exact c9_isAlone_b32 μ _ ih _ _
      · refine J_aload_n dX9_isAlone_13 rfl ?_
        refine J_getR dX9_isAlone_14 wX9_41 rfl jo_mPl_86 jr_86_14 ?_
        refine J_iload_n dX9_isAlone_17 rfl ?_
        refine JF_chk (fun c12 => ?_)
        refine J_iald dX9_isAlone_18 ji_mPl_95 jl_95 (jin_spec c12) rfl ?_
        refine J_aload_n dX9_isAlone_19 rfl ?_
        refine J_getR dX9_isAlone_20 wX9_41 rfl jo_mPl_86 jr_86_14 ?_
        refine J_iload_n dX9_isAlone_23 rfl ?_
        refine JF_chk (fun c11 => ?_)
        refine J_iald dX9_isAlone_24 ji_mPl_95 jl_95 (jin_spec c11) rfl ?_
        refine J_icmp_eq dX9_isAlone_25 (tgt := 32) (by decide) (fun c10 => ?_) (fun c10 => ?_)
        · refine JF_drop [2] ?_
          exact c9_isAlone_b32 μ _ ih _ _
        · refine J_iconst dX9_isAlone_28 (v := (1 : Int32)) rfl ?_
          refine J_goto dX9_isAlone_29 (tgt := 33) (by decide) ?_
          refine JF_drop [2] ?_
          exact c9_isAlone_b33 μ _ ih _ _ _
set_option maxRecDepth 20000 in
theorem c9_isAlone (a1 : Int32) (μ : JMu) : ∀ b, f9_isAlone a1 μ = some b → JC m9_isAlone 0 mPl [.ref 86, .int (a1)] μ (some (.int b), μ) := by
  refine JC_of (emb := (fun b : Int32 => (some (.int b), μ))) (L0 := [some (.ref 86), some (.int (a1)), none, none]) sm9_isAlone (Nat.le_of_ble_eq_true rfl) rfl ?_
  unfold f9_isAlone
  refine J_iconst dX9_isAlone_0 (v := (1 : Int32)) rfl ?_
  refine J_istore_n dX9_isAlone_1  (by decide) rfl ?_
  refine J_iconst dX9_isAlone_2 (v := (0 : Int32)) rfl ?_
  refine J_istore_n dX9_isAlone_3  (by decide) rfl ?_
  exact c9_isAlone_b4 μ jN _ _ _
set_option maxRecDepth 20000 in
theorem c9_settle_b104 (k2 : Int32 → Int32 → JMu → Option (JMu)) (hk2 : ∀ (v1 : Int32) (v2 : Int32) (μ : JMu), JF m9_settle 103 mPl (fun b : JMu => (none, b)) 2 [some (.ref 86), some (.int (v1)), some (.int (v2)), none, none, none] [] μ (k2 v1 v2 μ)) (k25 : Int32 → Int32 → Int32 → Int32 → Int32 → JMu → Option (JMu)) (hk25 : ∀ (v1 : Int32) (v2 : Int32) (v3 : Int32) (v4 : Int32) (v5 : Int32) (μ : JMu), JF m9_settle 103 mPl (fun b : JMu => (none, b)) 25 [some (.ref 86), some (.int (v1)), some (.int (v2)), some (.int (v3)), some (.int (v4)), some (.int (v5))] [] μ (k25 v1 v2 v3 v4 v5 μ)) (v1 : Int32) (v2 : Int32) (v3 : Int32) (v5 : Int32) (s0 : Int32) (μ : JMu) : JF m9_settle 103 mPl (fun b : JMu => (none, b)) 104 [some (.ref 86), some (.int (v1)), some (.int (v2)), some (.int (v3)), none, some (.int (v5))] [.int (s0)] μ (f9_settle_b104 k2 k25 v1 v2 v3 v5 s0 μ) := by
  unfold f9_settle_b104
  refine J_istore dX9_settle_104  (by decide) rfl ?_
  refine J_iinc dX9_settle_106 rfl (c0 := (1 : Int32)) rfl (by decide) rfl ?_
  refine J_goto dX9_settle_109 (tgt := 25) (by decide) ?_
  exact hk25 _ _ _ _ _ _
set_option maxRecDepth 20000 in
theorem c9_settle_b99 (k2 : Int32 → Int32 → JMu → Option (JMu)) (hk2 : ∀ (v1 : Int32) (v2 : Int32) (μ : JMu), JF m9_settle 103 mPl (fun b : JMu => (none, b)) 2 [some (.ref 86), some (.int (v1)), some (.int (v2)), none, none, none] [] μ (k2 v1 v2 μ)) (k25 : Int32 → Int32 → Int32 → Int32 → Int32 → JMu → Option (JMu)) (hk25 : ∀ (v1 : Int32) (v2 : Int32) (v3 : Int32) (v4 : Int32) (v5 : Int32) (μ : JMu), JF m9_settle 103 mPl (fun b : JMu => (none, b)) 25 [some (.ref 86), some (.int (v1)), some (.int (v2)), some (.int (v3)), some (.int (v4)), some (.int (v5))] [] μ (k25 v1 v2 v3 v4 v5 μ)) (v1 : Int32) (v2 : Int32) (v3 : Int32) (v5 : Int32) (μ : JMu) : JF m9_settle 103 mPl (fun b : JMu => (none, b)) 99 [some (.ref 86), some (.int (v1)), some (.int (v2)), some (.int (v3)), none, some (.int (v5))] [] μ (f9_settle_b99 k2 k25 v1 v2 v3 v5 μ) := by
  unfold f9_settle_b99
  refine J_iconst dX9_settle_99 (v := (1 : Int32)) rfl ?_
  refine J_goto dX9_settle_100 (tgt := 104) (by decide) ?_
  exact c9_settle_b104 k2 hk2 k25 hk25 _ _ _ _ _ _
set_option maxRecDepth 20000 in
theorem c9_settle_b103 (k2 : Int32 → Int32 → JMu → Option (JMu)) (hk2 : ∀ (v1 : Int32) (v2 : Int32) (μ : JMu), JF m9_settle 103 mPl (fun b : JMu => (none, b)) 2 [some (.ref 86), some (.int (v1)), some (.int (v2)), none, none, none] [] μ (k2 v1 v2 μ)) (k25 : Int32 → Int32 → Int32 → Int32 → Int32 → JMu → Option (JMu)) (hk25 : ∀ (v1 : Int32) (v2 : Int32) (v3 : Int32) (v4 : Int32) (v5 : Int32) (μ : JMu), JF m9_settle 103 mPl (fun b : JMu => (none, b)) 25 [some (.ref 86), some (.int (v1)), some (.int (v2)), some (.int (v3)), some (.int (v4)), some (.int (v5))] [] μ (k25 v1 v2 v3 v4 v5 μ)) (v1 : Int32) (v2 : Int32) (v3 : Int32) (v5 : Int32) (μ : JMu) : JF m9_settle 103 mPl (fun b : JMu => (none, b)) 103 [some (.ref 86), some (.int (v1)), some (.int (v2)), some (.int (v3)), none, some (.int (v5))] [] μ (f9_settle_b103 k2 k25 v1 v2 v3 v5 μ) := by
  unfold f9_settle_b103
  refine J_iconst dX9_settle_103 (v := (0 : Int32)) rfl ?_
  exact c9_settle_b104 k2 hk2 k25 hk25 _ _ _ _ _ _
set_option maxRecDepth 20000 in
theorem c9_settle_b76 (k2 : Int32 → Int32 → JMu → Option (JMu)) (hk2 : ∀ (v1 : Int32) (v2 : Int32) (μ : JMu), JF m9_settle 103 mPl (fun b : JMu => (none, b)) 2 [some (.ref 86), some (.int (v1)), some (.int (v2)), none, none, none] [] μ (k2 v1 v2 μ)) (k25 : Int32 → Int32 → Int32 → Int32 → Int32 → JMu → Option (JMu)) (hk25 : ∀ (v1 : Int32) (v2 : Int32) (v3 : Int32) (v4 : Int32) (v5 : Int32) (μ : JMu), JF m9_settle 103 mPl (fun b : JMu => (none, b)) 25 [some (.ref 86), some (.int (v1)), some (.int (v2)), some (.int (v3)), some (.int (v4)), some (.int (v5))] [] μ (k25 v1 v2 v3 v4 v5 μ)) (v1 : Int32) (v2 : Int32) (v3 : Int32) (v5 : Int32) (μ : JMu) : JF m9_settle 103 mPl (fun b : JMu => (none, b)) 76 [some (.ref 86), some (.int (v1)), some (.int (v2)), some (.int (v3)), none, some (.int (v5))] [] μ (f9_settle_b76 k2 k25 v1 v2 v3 v5 μ) := by
  unfold f9_settle_b76
  refine J_aload_n dX9_settle_76 rfl ?_
  refine J_callV_w (M' := m9_mostRooms) (as := []) dX9_settle_77 lX9_281 sm9_mostRooms sm9_mostRooms_w jo_mPl_86 hci_X9 (by decide) rfl (Nat.le_of_ble_eq_true rfl) (c9_mostRooms  _) (fun r16 => ?_)
  refine J_iload_n dX9_settle_80 rfl ?_
  refine J_icmp_ne dX9_settle_81 (tgt := 103) (by decide) (fun c17 => ?_) (fun c17 => ?_)
  · refine J_iload dX9_settle_84 rfl ?_
    refine J_bipush dX9_settle_86 (v := (24 : Int32)) rfl ?_
    refine J_icmp_eq dX9_settle_88 (tgt := 99) (by decide) (fun c18 => ?_) (fun c18 => ?_)
    · exact c9_settle_b99 k2 hk2 k25 hk25 _ _ _ _ _
    · refine J_aload_n dX9_settle_91 rfl ?_
      refine J_iload_n dX9_settle_92 rfl ?_
      refine J_callV_i (M' := m9_isAlone) (as := [_]) dX9_settle_93 lX9_284 sm9_isAlone sm9_isAlone_w jo_mPl_86 hci_X9 (by decide) rfl (Nat.le_of_ble_eq_true rfl) (c9_isAlone _ _) (fun r19 => ?_)
      refine J_if_eq dX9_settle_96 (tgt := 103) (by decide) (fun c20 => ?_) (fun c20 => ?_)
      · exact c9_settle_b103 k2 hk2 k25 hk25 _ _ _ _ _
      · exact c9_settle_b99 k2 hk2 k25 hk25 _ _ _ _ _
  · exact c9_settle_b103 k2 hk2 k25 hk25 _ _ _ _ _
set_option maxRecDepth 20000 in
theorem c9_settle_b59 (k2 : Int32 → Int32 → JMu → Option (JMu)) (hk2 : ∀ (v1 : Int32) (v2 : Int32) (μ : JMu), JF m9_settle 103 mPl (fun b : JMu => (none, b)) 2 [some (.ref 86), some (.int (v1)), some (.int (v2)), none, none, none] [] μ (k2 v1 v2 μ)) (k25 : Int32 → Int32 → Int32 → Int32 → Int32 → JMu → Option (JMu)) (hk25 : ∀ (v1 : Int32) (v2 : Int32) (v3 : Int32) (v4 : Int32) (v5 : Int32) (μ : JMu), JF m9_settle 103 mPl (fun b : JMu => (none, b)) 25 [some (.ref 86), some (.int (v1)), some (.int (v2)), some (.int (v3)), some (.int (v4)), some (.int (v5))] [] μ (k25 v1 v2 v3 v4 v5 μ)) (v1 : Int32) (v2 : Int32) (v3 : Int32) (v5 : Int32) (s0 : Int32) (s1 : Int32) (μ : JMu) : JF m9_settle 103 mPl (fun b : JMu => (none, b)) 59 [some (.ref 86), some (.int (v1)), some (.int (v2)), some (.int (v3)), none, some (.int (v5))] [.int (s0), .int (s1), .ref 95] μ (f9_settle_b59 k2 k25 v1 v2 v3 v5 s0 s1 μ) := by
  unfold f9_settle_b59
  refine JF_chk (fun c24 => ?_)
  refine J_iast dX9_settle_59 ji_mPl_95 jl_95 (jin_spec c24) rfl ?_
  refine J_iload dX9_settle_60 rfl ?_
  refine J_bipush dX9_settle_62 (v := (24 : Int32)) rfl ?_
  refine J_icmp_eq dX9_settle_64 (tgt := 76) (by decide) (fun c21 => ?_) (fun c21 => ?_)
  · exact c9_settle_b76 k2 hk2 k25 hk25 _ _ _ _ _
  · refine J_aload_n dX9_settle_67 rfl ?_
    refine J_getR dX9_settle_68 wX9_41 rfl jo_mPl_86 jr_86_14 ?_
    refine J_iload_n dX9_settle_71 rfl ?_
    refine JF_chk (fun c23 => ?_)
    refine J_iald dX9_settle_72 ji_mPl_95 jl_95 (jin_spec c23) rfl ?_
    refine J_if_eq dX9_settle_73 (tgt := 103) (by decide) (fun c22 => ?_) (fun c22 => ?_)
    · exact c9_settle_b103 k2 hk2 k25 hk25 _ _ _ _ _
    · exact c9_settle_b76 k2 hk2 k25 hk25 _ _ _ _ _
set_option maxRecDepth 20000 in
theorem c9_settle_b25 (k2 : Int32 → Int32 → JMu → Option (JMu)) (hk2 : ∀ (v1 : Int32) (v2 : Int32) (μ : JMu), JF m9_settle 103 mPl (fun b : JMu => (none, b)) 2 [some (.ref 86), some (.int (v1)), some (.int (v2)), none, none, none] [] μ (k2 v1 v2 μ)) (n : Nat) : ∀ (v1 : Int32) (v2 : Int32) (v3 : Int32) (v4 : Int32) (v5 : Int32) (μ : JMu), JF m9_settle 103 mPl (fun b : JMu => (none, b)) 25 [some (.ref 86), some (.int (v1)), some (.int (v2)), some (.int (v3)), some (.int (v4)), some (.int (v5))] [] μ (f9_settle_b25 k2 n v1 v2 v3 v4 v5 μ) := by
  induction n with
  | zero => intros; exact JF_none
  | succ n ih =>
    intro v1 v2 v3 v4 v5 μ
    rw [f9_settle_b25]
    refine J_iload dX9_settle_25 rfl ?_
    refine J_bipush dX9_settle_27 (v := (24 : Int32)) rfl ?_
    refine J_icmp_gt dX9_settle_29 (tgt := 112) (by decide) (fun c25 => ?_) (fun c25 => ?_)
    · refine J_iinc dX9_settle_112 rfl (c0 := (1 : Int32)) rfl (by decide) rfl ?_
      refine J_goto dX9_settle_115 (tgt := 2) (by decide) ?_
      refine JF_drop [3, 4, 5] ?_
      exact hk2 _ _ _
    · refine J_iload dX9_settle_32 rfl ?_
      refine J_if_ne dX9_settle_34 (tgt := 112) (by decide) (fun c26 => ?_) (fun c26 => ?_)
      · refine J_aload_n dX9_settle_37 rfl ?_
        refine J_getR dX9_settle_38 wX9_41 rfl jo_mPl_86 jr_86_14 ?_
        refine J_iload_n dX9_settle_41 rfl ?_
        refine J_iload dX9_settle_42 rfl ?_
        refine J_bipush dX9_settle_44 (v := (24 : Int32)) rfl ?_
        refine J_icmp_ge dX9_settle_46 (tgt := 58) (by decide) (fun c27 => ?_) (fun c27 => ?_)
        · refine J_iconst dX9_settle_58 (v := (0 : Int32)) rfl ?_
          refine JF_drop [4] ?_
          exact c9_settle_b59 k2 hk2 _ ih _ _ _ _ _ _ _
        · refine J_iload_n dX9_settle_49 rfl ?_
          refine J_iconst dX9_settle_50 (v := (1 : Int32)) rfl ?_
          refine J_iload dX9_settle_51 rfl ?_
          refine J_ishl dX9_settle_53 ?_
          refine J_iand dX9_settle_54 ?_
          refine J_goto dX9_settle_55 (tgt := 59) (by decide) ?_
          refine JF_drop [4] ?_
          exact c9_settle_b59 k2 hk2 _ ih _ _ _ _ _ _ _
      · refine J_iinc dX9_settle_112 rfl (c0 := (1 : Int32)) rfl (by decide) rfl ?_
        refine J_goto dX9_settle_115 (tgt := 2) (by decide) ?_
        refine JF_drop [3, 4, 5] ?_
        exact hk2 _ _ _
set_option maxRecDepth 20000 in
theorem c9_settle_b2 (n : Nat) : ∀ (v1 : Int32) (v2 : Int32) (μ : JMu), JF m9_settle 103 mPl (fun b : JMu => (none, b)) 2 [some (.ref 86), some (.int (v1)), some (.int (v2)), none, none, none] [] μ (f9_settle_b2 n v1 v2 μ) := by
  induction n with
  | zero => intros; exact JF_none
  | succ n ih =>
    intro v1 v2 μ
    rw [f9_settle_b2]
    refine J_iload_n dX9_settle_2 rfl ?_
    refine J_aload_n dX9_settle_3 rfl ?_
    refine J_getR dX9_settle_4 wX9_9 rfl jo_mPl_86 jr_86_0 ?_
    refine J_iconst dX9_settle_7 (v := (1 : Int32)) rfl ?_
    refine J_iald dX9_settle_8 ji_mPl_87 jl_87 (jin_spec (by decide)) (j := 1) rfl ?_
    refine J_icmp_ge dX9_settle_9 (tgt := 118) (by decide) (fun c28 => ?_) (fun c28 => ?_)
    · exact J_vret dX9_settle_118 rfl rfl
    · refine J_aload_n dX9_settle_12 rfl ?_
      refine J_getR dX9_settle_13 wX9_41 rfl jo_mPl_86 jr_86_14 ?_
      refine J_iload_n dX9_settle_16 rfl ?_
      refine JF_chk (fun c29 => ?_)
      refine J_iald dX9_settle_17 ji_mPl_95 jl_95 (jin_spec c29) rfl ?_
      refine J_istore_n dX9_settle_18  (by decide) rfl ?_
      refine J_iconst dX9_settle_19 (v := (0 : Int32)) rfl ?_
      refine J_istore dX9_settle_20  (by decide) rfl ?_
      refine J_iconst dX9_settle_22 (v := (0 : Int32)) rfl ?_
      refine J_istore dX9_settle_23  (by decide) rfl ?_
      exact c9_settle_b25 _ ih jN _ _ _ _ _ _
set_option maxRecDepth 20000 in
theorem c9_settle (a1 : Int32) (μ : JMu) : ∀ b, f9_settle a1 μ = some b → JC m9_settle 103 mPl [.ref 86, .int (a1)] μ (none, b) := by
  refine JC_of (emb := (fun b : JMu => (none, b))) (L0 := [some (.ref 86), some (.int (a1)), none, none, none, none]) sm9_settle (Nat.le_of_ble_eq_true rfl) rfl ?_
  unfold f9_settle
  refine J_iconst dX9_settle_0 (v := (0 : Int32)) rfl ?_
  refine J_istore_n dX9_settle_1  (by decide) rfl ?_
  exact c9_settle_b2 jN _ _ _
set_option maxRecDepth 20000 in
theorem c9_tellsWishes_b32 (n : Nat) : ∀ (v1 : Int32) (v2 : Int32) (v3 : Int32) (μ : JMu), JF m9_tellsWishes 2 mPl (fun b : Int32 × JMu => (some (.int b.1), b.2)) 32 [some (.ref 86), some (.int (v1)), some (.int (v2)), some (.int (v3))] [] μ (f9_tellsWishes_b32 n v1 v2 v3 μ) := by
  induction n with
  | zero => intros; exact JF_none
  | succ n ih =>
    intro v1 v2 v3 μ
    rw [f9_tellsWishes_b32]
    refine J_iload_n dX9_tellsWishes_32 rfl ?_
    refine J_aload_n dX9_tellsWishes_33 rfl ?_
    refine J_getR dX9_tellsWishes_34 wX9_9 rfl jo_mPl_86 jr_86_0 ?_
    refine J_iconst dX9_tellsWishes_37 (v := (1 : Int32)) rfl ?_
    refine J_iald dX9_tellsWishes_38 ji_mPl_87 jl_87 (jin_spec (by decide)) (j := 1) rfl ?_
    refine J_icmp_ge dX9_tellsWishes_39 (tgt := 79) (by decide) (fun c15 => ?_) (fun c15 => ?_)
    · refine J_iload_n dX9_tellsWishes_79 rfl ?_
      refine JF_chk (fun c16 => ?_)
      exact J_zret dX9_tellsWishes_80 rfl c16 rfl
    · refine J_iload_n dX9_tellsWishes_42 rfl ?_
      refine J_if_eq dX9_tellsWishes_43 (tgt := 79) (by decide) (fun c17 => ?_) (fun c17 => ?_)
      · refine J_iload_n dX9_tellsWishes_79 rfl ?_
        refine JF_chk (fun c18 => ?_)
        exact J_zret dX9_tellsWishes_80 rfl c18 rfl
      · refine J_aload_n dX9_tellsWishes_46 rfl ?_
        refine J_getR dX9_tellsWishes_47 wX9_41 rfl jo_mPl_86 jr_86_14 ?_
        refine J_iload_n dX9_tellsWishes_50 rfl ?_
        refine J_aload_n dX9_tellsWishes_51 rfl ?_
        refine J_getR dX9_tellsWishes_52 wX9_56 rfl jo_mPl_86 jr_86_24 ?_
        refine J_bipush dX9_tellsWishes_55 (v := (40 : Int32)) rfl ?_
        refine J_iload_n dX9_tellsWishes_57 rfl ?_
        refine J_imul dX9_tellsWishes_58 ?_
        refine J_iload_n dX9_tellsWishes_59 rfl ?_
        refine J_iadd dX9_tellsWishes_60 ?_
        refine JF_chk (fun c22 => ?_)
        refine J_iald dX9_tellsWishes_61 ji_mPl_100 jl_100 (jin_spec c22) rfl ?_
        refine JF_chk (fun c21 => ?_)
        refine J_iast dX9_tellsWishes_62 ji_mPl_95 jl_95 (jin_spec c21) rfl ?_
        refine J_aload_n dX9_tellsWishes_63 rfl ?_
        refine J_getR dX9_tellsWishes_64 wX9_41 rfl jo_mPl_86 jr_86_14 ?_
        refine J_iload_n dX9_tellsWishes_67 rfl ?_
        refine JF_chk (fun c20 => ?_)
        refine J_iald dX9_tellsWishes_68 ji_mPl_95 jl_95 (jin_spec c20) rfl ?_
        refine J_callS_i (M' := m9_isSet) (as := [_]) dX9_tellsWishes_69 lX9_236 sm9_isSet sm9_isSet_w (by decide) rfl (Nat.le_of_ble_eq_true rfl) (c9_isSet _ _) (fun r19 => ?_)
        refine J_istore_n dX9_tellsWishes_72  (by decide) rfl ?_
        refine J_iinc dX9_tellsWishes_73 rfl (c0 := (1 : Int32)) rfl (by decide) rfl ?_
        refine J_goto dX9_tellsWishes_76 (tgt := 32) (by decide) ?_
        exact ih _ _ _ _
set_option maxRecDepth 20000 in
theorem c9_tellsWishes_b29 (v1 : Int32) (s0 : Int32) (μ : JMu) : JF m9_tellsWishes 2 mPl (fun b : Int32 × JMu => (some (.int b.1), b.2)) 29 [some (.ref 86), some (.int (v1)), none, none] [.int (s0)] μ (f9_tellsWishes_b29 v1 s0 μ) := by
  unfold f9_tellsWishes_b29
  refine J_istore_n dX9_tellsWishes_29  (by decide) rfl ?_
  refine J_iconst dX9_tellsWishes_30 (v := (0 : Int32)) rfl ?_
  refine J_istore_n dX9_tellsWishes_31  (by decide) rfl ?_
  exact c9_tellsWishes_b32 jN _ _ _ _
set_option maxRecDepth 20000 in
theorem c9_tellsWishes_b28 (v1 : Int32) (μ : JMu) : JF m9_tellsWishes 2 mPl (fun b : Int32 × JMu => (some (.int b.1), b.2)) 28 [some (.ref 86), some (.int (v1)), none, none] [] μ (f9_tellsWishes_b28 v1 μ) := by
  unfold f9_tellsWishes_b28
  refine J_iconst dX9_tellsWishes_28 (v := (0 : Int32)) rfl ?_
  exact c9_tellsWishes_b29 _ _ _
set_option maxRecDepth 20000 in
theorem c9_tellsWishes (a1 : Int32) (μ : JMu) : ∀ b, f9_tellsWishes a1 μ = some b → JC m9_tellsWishes 2 mPl [.ref 86, .int (a1)] μ (some (.int b.1), b.2) := by
  refine JC_of (emb := (fun b : Int32 × JMu => (some (.int b.1), b.2))) (L0 := [some (.ref 86), some (.int (a1)), none, none]) sm9_tellsWishes (Nat.le_of_ble_eq_true rfl) rfl ?_
  unfold f9_tellsWishes
  refine J_aload_n dX9_tellsWishes_0 rfl ?_
  refine J_getR dX9_tellsWishes_1 wX9_50 rfl jo_mPl_86 jr_86_22 ?_
  refine J_iload_n dX9_tellsWishes_4 rfl ?_
  refine JF_chk (fun c28 => ?_)
  refine J_iald dX9_tellsWishes_5 ji_mPl_98 jl_98 (jin_spec c28) rfl ?_
  refine J_if_le dX9_tellsWishes_6 (tgt := 28) (by decide) (fun c24 => ?_) (fun c24 => ?_)
  · exact c9_tellsWishes_b28 _ _
  · refine J_aload_n dX9_tellsWishes_9 rfl ?_
    refine J_getR dX9_tellsWishes_10 wX9_53 rfl jo_mPl_86 jr_86_23 ?_
    refine J_iload_n dX9_tellsWishes_13 rfl ?_
    refine JF_chk (fun c27 => ?_)
    refine J_iald dX9_tellsWishes_14 ji_mPl_99 jl_99 (jin_spec c27) rfl ?_
    refine J_aload_n dX9_tellsWishes_15 rfl ?_
    refine J_getR dX9_tellsWishes_16 wX9_9 rfl jo_mPl_86 jr_86_0 ?_
    refine J_iconst dX9_tellsWishes_19 (v := (1 : Int32)) rfl ?_
    refine J_iald dX9_tellsWishes_20 ji_mPl_87 jl_87 (jin_spec (by decide)) (j := 1) rfl ?_
    refine J_icmp_ne dX9_tellsWishes_21 (tgt := 28) (by decide) (fun c25 => ?_) (fun c25 => ?_)
    · refine J_iconst dX9_tellsWishes_24 (v := (1 : Int32)) rfl ?_
      refine J_goto dX9_tellsWishes_25 (tgt := 29) (by decide) ?_
      exact c9_tellsWishes_b29 _ _ _
    · exact c9_tellsWishes_b28 _ _
set_option maxRecDepth 20000 in
theorem c9_isSheet (a1 : Int32) (μ : JMu) : ∀ b, f9_isSheet a1 = some b → JC m9_isSheet 1 mPl [.int (a1)] μ (some (.int b), μ) := by
  refine JC_of (emb := (fun b : Int32 => (some (.int b), μ))) (L0 := [some (.int (a1))]) sm9_isSheet (Nat.le_of_ble_eq_true rfl) rfl ?_
  unfold f9_isSheet
  refine J_iload_n dX9_isSheet_0 rfl ?_
  refine J_iconst dX9_isSheet_1 (v := (0 : Int32)) rfl ?_
  refine J_iconst dX9_isSheet_2 (v := (3 : Int32)) rfl ?_
  refine J_callS_i (M' := m9_within) (as := [_, _, _]) dX9_isSheet_3 lX9_76 sm9_within sm9_within_w (by decide) rfl (Nat.le_of_ble_eq_true rfl) (c9_within _ _ _ _) (fun r3 => ?_)
  refine JF_chk (fun c4 => ?_)
  exact J_zret dX9_isSheet_6 rfl c4 rfl
set_option maxRecDepth 20000 in
theorem c9_rooms_b23 (μ : JMu) : JF m9_rooms 104 mPl (fun b : Int32 × JMu => (some (.int b.1), b.2)) 23 [some (.ref 86), none, none, none, none, none] [] μ (f9_rooms_b23  μ) := by
  unfold f9_rooms_b23
  refine J_aload_n dX9_rooms_23 rfl ?_
  refine J_ldc dX9_rooms_24 kX9_80 ?_
  refine J_callV_w (M' := m9_finding) (as := [_]) dX9_rooms_26 lX9_81 sm9_finding sm9_finding_w jo_mPl_86 hci_X9 (by decide) rfl (Nat.le_of_ble_eq_true rfl) (c9_finding _ _) (fun r16 => ?_)
  exact J_iret dX9_rooms_29 rfl rfl
set_option maxRecDepth 20000 in
theorem c9_rooms_b95 (k68 : Int32 → Int32 → Int32 → JMu → Option (Int32 × JMu)) (hk68 : ∀ (v2 : Int32) (v4 : Int32) (v5 : Int32) (μ : JMu), JF m9_rooms 104 mPl (fun b : Int32 × JMu => (some (.int b.1), b.2)) 68 [some (.ref 86), none, some (.int (v2)), none, some (.int (v4)), some (.int (v5))] [] μ (k68 v2 v4 v5 μ)) (v2 : Int32) (v5 : Int32) (s0 : Int32) (μ : JMu) : JF m9_rooms 104 mPl (fun b : Int32 × JMu => (some (.int b.1), b.2)) 95 [some (.ref 86), none, some (.int (v2)), none, none, some (.int (v5))] [.int (s0)] μ (f9_rooms_b95 k68 v2 v5 s0 μ) := by
  unfold f9_rooms_b95
  refine J_istore dX9_rooms_95  (by decide) rfl ?_
  refine J_iinc dX9_rooms_97 rfl (c0 := (1 : Int32)) rfl (by decide) rfl ?_
  refine J_goto dX9_rooms_100 (tgt := 68) (by decide) ?_
  exact hk68 _ _ _ _
set_option maxRecDepth 20000 in
theorem c9_rooms_b68 (n : Nat) : ∀ (v2 : Int32) (v4 : Int32) (v5 : Int32) (μ : JMu), JF m9_rooms 104 mPl (fun b : Int32 × JMu => (some (.int b.1), b.2)) 68 [some (.ref 86), none, some (.int (v2)), none, some (.int (v4)), some (.int (v5))] [] μ (f9_rooms_b68 n v2 v4 v5 μ) := by
  induction n with
  | zero => intros; exact JF_none
  | succ n ih =>
    intro v2 v4 v5 μ
    rw [f9_rooms_b68]
    refine J_iload dX9_rooms_68 rfl ?_
    refine J_bipush dX9_rooms_70 (v := (24 : Int32)) rfl ?_
    refine J_icmp_ge dX9_rooms_72 (tgt := 103) (by decide) (fun c17 => ?_) (fun c17 => ?_)
    · refine J_iload dX9_rooms_103 rfl ?_
      exact J_iret dX9_rooms_105 rfl rfl
    · refine J_aload_n dX9_rooms_75 rfl ?_
      refine J_getR dX9_rooms_76 wX9_41 rfl jo_mPl_86 jr_86_14 ?_
      refine J_iload_n dX9_rooms_79 rfl ?_
      refine JF_chk (fun c19 => ?_)
      refine J_iald dX9_rooms_80 ji_mPl_95 jl_95 (jin_spec c19) rfl ?_
      refine J_iconst dX9_rooms_81 (v := (1 : Int32)) rfl ?_
      refine J_iload dX9_rooms_82 rfl ?_
      refine J_ishl dX9_rooms_84 ?_
      refine J_icmp_ne dX9_rooms_85 (tgt := 93) (by decide) (fun c18 => ?_) (fun c18 => ?_)
      · refine J_iload dX9_rooms_88 rfl ?_
        refine J_goto dX9_rooms_90 (tgt := 95) (by decide) ?_
        refine JF_drop [4] ?_
        exact c9_rooms_b95 _ ih _ _ _ _
      · refine J_iload dX9_rooms_93 rfl ?_
        refine JF_drop [4] ?_
        exact c9_rooms_b95 _ ih _ _ _ _
set_option maxRecDepth 20000 in
theorem c9_rooms (a1 : Int32) (a2 : Int32) (μ : JMu) : ∀ b, f9_rooms a1 a2 μ = some b → JC m9_rooms 104 mPl [.ref 86, .int (a1), .int (a2)] μ (some (.int b.1), b.2) := by
  refine JC_of (emb := (fun b : Int32 × JMu => (some (.int b.1), b.2))) (L0 := [some (.ref 86), some (.int (a1)), some (.int (a2)), none, none, none]) sm9_rooms (Nat.le_of_ble_eq_true rfl) rfl ?_
  unfold f9_rooms
  refine J_iload_n dX9_rooms_0 rfl ?_
  refine J_callS_i (M' := m9_isSheet) (as := [_]) dX9_rooms_1 lX9_287 sm9_isSheet sm9_isSheet_w (by decide) rfl (Nat.le_of_ble_eq_true rfl) (c9_isSheet _ _) (fun r20 => ?_)
  refine J_if_eq dX9_rooms_4 (tgt := 23) (by decide) (fun c21 => ?_) (fun c21 => ?_)
  · refine JF_drop [1, 2] ?_
    exact c9_rooms_b23  _
  · refine J_iload_n dX9_rooms_7 rfl ?_
    refine J_iconst dX9_rooms_8 (v := (-1 : Int32)) rfl ?_
    refine J_aload_n dX9_rooms_9 rfl ?_
    refine J_getR dX9_rooms_10 wX9_9 rfl jo_mPl_86 jr_86_0 ?_
    refine J_iconst dX9_rooms_13 (v := (1 : Int32)) rfl ?_
    refine J_iald dX9_rooms_14 ji_mPl_87 jl_87 (jin_spec (by decide)) (j := 1) rfl ?_
    refine J_iconst dX9_rooms_15 (v := (1 : Int32)) rfl ?_
    refine J_isub dX9_rooms_16 ?_
    refine J_callS_i (M' := m9_within) (as := [_, _, _]) dX9_rooms_17 lX9_76 sm9_within sm9_within_w (by decide) rfl (Nat.le_of_ble_eq_true rfl) (c9_within _ _ _ _) (fun r22 => ?_)
    refine J_if_ne dX9_rooms_20 (tgt := 30) (by decide) (fun c23 => ?_) (fun c23 => ?_)
    · refine JF_drop [1, 2] ?_
      exact c9_rooms_b23  _
    · refine J_aload_n dX9_rooms_30 rfl ?_
      refine J_iload_n dX9_rooms_31 rfl ?_
      refine J_callV_w (M' := m9_tellsWishes) (as := [_]) dX9_rooms_32 lX9_290 sm9_tellsWishes sm9_tellsWishes_w jo_mPl_86 hci_X9 (by decide) rfl (Nat.le_of_ble_eq_true rfl) (c9_tellsWishes _ _) (fun r24 => ?_)
      refine J_if_ne dX9_rooms_35 (tgt := 46) (by decide) (fun c25 => ?_) (fun c25 => ?_)
      · refine J_aload_n dX9_rooms_38 rfl ?_
        refine J_ldcw dX9_rooms_39 kX9_268 ?_
        refine J_callV_w (M' := m9_finding) (as := [_]) dX9_rooms_42 lX9_81 sm9_finding sm9_finding_w jo_mPl_86 hci_X9 (by decide) rfl (Nat.le_of_ble_eq_true rfl) (c9_finding _ _) (fun r29 => ?_)
        exact J_iret dX9_rooms_45 rfl rfl
      · refine J_aload_n dX9_rooms_46 rfl ?_
        refine J_callV_w (M' := m9_mostRooms) (as := []) dX9_rooms_47 lX9_281 sm9_mostRooms sm9_mostRooms_w jo_mPl_86 hci_X9 (by decide) rfl (Nat.le_of_ble_eq_true rfl) (c9_mostRooms  _) (fun r26 => ?_)
        refine J_istore_n dX9_rooms_50  (by decide) rfl ?_
        refine J_iload_n dX9_rooms_51 rfl ?_
        refine J_if_ge dX9_rooms_52 (tgt := 57) (by decide) (fun c27 => ?_) (fun c27 => ?_)
        · refine J_aload_n dX9_rooms_57 rfl ?_
          refine J_iload_n dX9_rooms_58 rfl ?_
          refine J_callV_v (M' := m9_settle) (as := [_]) dX9_rooms_59 lX9_293 sm9_settle sm9_settle_w jo_mPl_86 hci_X9 (by decide) rfl (Nat.le_of_ble_eq_true rfl) (c9_settle _ _) (fun r28 => ?_)
          refine J_iconst dX9_rooms_62 (v := (-1 : Int32)) rfl ?_
          refine J_istore dX9_rooms_63  (by decide) rfl ?_
          refine J_iconst dX9_rooms_65 (v := (0 : Int32)) rfl ?_
          refine J_istore dX9_rooms_66  (by decide) rfl ?_
          refine JF_drop [1, 3] ?_
          exact c9_rooms_b68 jN _ _ _ _
        · refine J_iload_n dX9_rooms_55 rfl ?_
          exact J_iret dX9_rooms_56 rfl rfl
set_option maxRecDepth 20000 in
theorem c9_falls_b20 (μ : JMu) : JF m9_falls 1 mPl (fun b : Int32 × JMu => (some (.int b.1), b.2)) 20 [some (.ref 86), none, none, none] [] μ (f9_falls_b20  μ) := by
  unfold f9_falls_b20
  refine J_aload_n dX9_falls_20 rfl ?_
  refine J_ldc dX9_falls_21 kX9_80 ?_
  refine J_callV_w (M' := m9_finding) (as := [_]) dX9_falls_23 lX9_81 sm9_finding sm9_finding_w jo_mPl_86 hci_X9 (by decide) rfl (Nat.le_of_ble_eq_true rfl) (c9_finding _ _) (fun r10 => ?_)
  exact J_iret dX9_falls_26 rfl rfl
set_option maxRecDepth 20000 in
theorem c9_falls_b29 (n : Nat) : ∀ (v1 : Int32) (v2 : Int32) (v3 : Int32) (μ : JMu), JF m9_falls 1 mPl (fun b : Int32 × JMu => (some (.int b.1), b.2)) 29 [some (.ref 86), some (.int (v1)), some (.int (v2)), some (.int (v3))] [] μ (f9_falls_b29 n v1 v2 v3 μ) := by
  induction n with
  | zero => intros; exact JF_none
  | succ n ih =>
    intro v1 v2 v3 μ
    rw [f9_falls_b29]
    refine J_aload_n dX9_falls_29 rfl ?_
    refine J_getR dX9_falls_30 wX9_9 rfl jo_mPl_86 jr_86_0 ?_
    refine J_iconst dX9_falls_33 (v := (0 : Int32)) rfl ?_
    refine J_iald dX9_falls_34 ji_mPl_87 jl_87 (jin_spec (by decide)) (j := 0) rfl ?_
    refine J_iload_n dX9_falls_35 rfl ?_
    refine J_iadd dX9_falls_36 ?_
    refine J_bipush dX9_falls_37 (v := (16 : Int32)) rfl ?_
    refine J_irem dX9_falls_39 (by decide) ?_
    refine J_iload_n dX9_falls_40 rfl ?_
    refine J_icmp_ne dX9_falls_41 (tgt := 59) (by decide) (fun c11 => ?_) (fun c11 => ?_)
    · refine J_aload_n dX9_falls_44 rfl ?_
      refine J_getR dX9_falls_45 wX9_9 rfl jo_mPl_86 jr_86_0 ?_
      refine J_iconst dX9_falls_48 (v := (0 : Int32)) rfl ?_
      refine J_iald dX9_falls_49 ji_mPl_87 jl_87 (jin_spec (by decide)) (j := 0) rfl ?_
      refine J_iload_n dX9_falls_50 rfl ?_
      refine J_iadd dX9_falls_51 ?_
      refine J_bipush dX9_falls_52 (v := (7 : Int32)) rfl ?_
      refine J_irem dX9_falls_54 (by decide) ?_
      refine J_iload_n dX9_falls_55 rfl ?_
      refine J_icmp_eq dX9_falls_56 (tgt := 65) (by decide) (fun c12 => ?_) (fun c12 => ?_)
      · refine J_iload_n dX9_falls_65 rfl ?_
        exact J_iret dX9_falls_66 rfl rfl
      · refine J_iinc dX9_falls_59 rfl (c0 := (1 : Int32)) rfl (by decide) rfl ?_
        refine J_goto dX9_falls_62 (tgt := 29) (by decide) ?_
        exact ih _ _ _ _
    · refine J_iinc dX9_falls_59 rfl (c0 := (1 : Int32)) rfl (by decide) rfl ?_
      refine J_goto dX9_falls_62 (tgt := 29) (by decide) ?_
      exact ih _ _ _ _
set_option maxRecDepth 20000 in
theorem c9_falls (a1 : Int32) (a2 : Int32) (μ : JMu) : ∀ b, f9_falls a1 a2 μ = some b → JC m9_falls 1 mPl [.ref 86, .int (a1), .int (a2)] μ (some (.int b.1), b.2) := by
  refine JC_of (emb := (fun b : Int32 × JMu => (some (.int b.1), b.2))) (L0 := [some (.ref 86), some (.int (a1)), some (.int (a2)), none]) sm9_falls (Nat.le_of_ble_eq_true rfl) rfl ?_
  unfold f9_falls
  refine J_iload_n dX9_falls_0 rfl ?_
  refine J_iconst dX9_falls_1 (v := (0 : Int32)) rfl ?_
  refine J_bipush dX9_falls_2 (v := (15 : Int32)) rfl ?_
  refine J_callS_i (M' := m9_within) (as := [_, _, _]) dX9_falls_4 lX9_76 sm9_within sm9_within_w (by decide) rfl (Nat.le_of_ble_eq_true rfl) (c9_within _ _ _ _) (fun r15 => ?_)
  refine J_if_eq dX9_falls_7 (tgt := 20) (by decide) (fun c16 => ?_) (fun c16 => ?_)
  · refine JF_drop [1, 2] ?_
    exact c9_falls_b20  _
  · refine J_iload_n dX9_falls_10 rfl ?_
    refine J_iconst dX9_falls_11 (v := (0 : Int32)) rfl ?_
    refine J_bipush dX9_falls_12 (v := (6 : Int32)) rfl ?_
    refine J_callS_i (M' := m9_within) (as := [_, _, _]) dX9_falls_14 lX9_76 sm9_within sm9_within_w (by decide) rfl (Nat.le_of_ble_eq_true rfl) (c9_within _ _ _ _) (fun r17 => ?_)
    refine J_if_ne dX9_falls_17 (tgt := 27) (by decide) (fun c18 => ?_) (fun c18 => ?_)
    · refine JF_drop [1, 2] ?_
      exact c9_falls_b20  _
    · refine J_iconst dX9_falls_27 (v := (0 : Int32)) rfl ?_
      refine J_istore_n dX9_falls_28  (by decide) rfl ?_
      exact c9_falls_b29 jN _ _ _ _
set_option maxRecDepth 20000 in
theorem c9_was_b69 (k31 : Int32 → Int32 → Int32 → JMu → Option (Int32 × JMu)) (hk31 : ∀ (v1 : Int32) (v2 : Int32) (v3 : Int32) (μ : JMu), JF m9_was 5 mPl (fun b : Int32 × JMu => (some (.int b.1), b.2)) 31 [some (.ref 86), some (.int (v1)), some (.int (v2)), some (.int (v3)), none, none] [] μ (k31 v1 v2 v3 μ)) (v1 : Int32) (v3 : Int32) (s0 : Int32) (μ : JMu) : JF m9_was 5 mPl (fun b : Int32 × JMu => (some (.int b.1), b.2)) 69 [some (.ref 86), some (.int (v1)), none, some (.int (v3)), none, none] [.int (s0)] μ (f9_was_b69 k31 v1 v3 s0 μ) := by
  unfold f9_was_b69
  refine J_istore_n dX9_was_69  (by decide) rfl ?_
  refine J_iinc dX9_was_70 rfl (c0 := (1 : Int32)) rfl (by decide) rfl ?_
  refine J_goto dX9_was_73 (tgt := 31) (by decide) ?_
  exact hk31 _ _ _ _
set_option maxRecDepth 20000 in
theorem c9_was_b68 (k31 : Int32 → Int32 → Int32 → JMu → Option (Int32 × JMu)) (hk31 : ∀ (v1 : Int32) (v2 : Int32) (v3 : Int32) (μ : JMu), JF m9_was 5 mPl (fun b : Int32 × JMu => (some (.int b.1), b.2)) 31 [some (.ref 86), some (.int (v1)), some (.int (v2)), some (.int (v3)), none, none] [] μ (k31 v1 v2 v3 μ)) (v1 : Int32) (v3 : Int32) (μ : JMu) : JF m9_was 5 mPl (fun b : Int32 × JMu => (some (.int b.1), b.2)) 68 [some (.ref 86), some (.int (v1)), none, some (.int (v3)), none, none] [] μ (f9_was_b68 k31 v1 v3 μ) := by
  unfold f9_was_b68
  refine J_iconst dX9_was_68 (v := (0 : Int32)) rfl ?_
  exact c9_was_b69 k31 hk31 _ _ _ _
set_option maxRecDepth 20000 in
theorem c9_was_b144 (k102 : Int32 → Int32 → Int32 → Int32 → JMu → Option (Int32 × JMu)) (hk102 : ∀ (v1 : Int32) (v3 : Int32) (v4 : Int32) (v5 : Int32) (μ : JMu), JF m9_was 5 mPl (fun b : Int32 × JMu => (some (.int b.1), b.2)) 102 [some (.ref 86), some (.int (v1)), none, some (.int (v3)), some (.int (v4)), some (.int (v5))] [] μ (k102 v1 v3 v4 v5 μ)) (v1 : Int32) (v3 : Int32) (v5 : Int32) (s0 : Int32) (s1 : Int32) (μ : JMu) : JF m9_was 5 mPl (fun b : Int32 × JMu => (some (.int b.1), b.2)) 144 [some (.ref 86), some (.int (v1)), none, some (.int (v3)), none, some (.int (v5))] [.int (s0), .int (s1)] μ (f9_was_b144 k102 v1 v3 v5 s0 s1 μ) := by
  unfold f9_was_b144
  refine J_iand dX9_was_144 ?_
  refine J_istore dX9_was_145  (by decide) rfl ?_
  refine J_aload_n dX9_was_147 rfl ?_
  refine J_getR dX9_was_148 wX9_9 rfl jo_mPl_86 jr_86_0 ?_
  refine J_iconst dX9_was_151 (v := (0 : Int32)) rfl ?_
  refine J_dup2 dX9_was_152 rfl rfl ?_
  refine J_iald dX9_was_153 ji_mPl_87 jl_87 (jin_spec (by decide)) (j := 0) rfl ?_
  refine J_iconst dX9_was_154 (v := (1 : Int32)) rfl ?_
  refine J_iadd dX9_was_155 ?_
  refine J_iast dX9_was_156 ji_mPl_87 jl_87 (jin_spec (by decide)) (j := 0) rfl ?_
  refine J_iinc dX9_was_157 rfl (c0 := (1 : Int32)) rfl (by decide) rfl ?_
  refine J_goto dX9_was_160 (tgt := 102) (by decide) ?_
  exact hk102 _ _ _ _ _
set_option maxRecDepth 20000 in
theorem c9_was_b102 (n : Nat) : ∀ (v1 : Int32) (v3 : Int32) (v4 : Int32) (v5 : Int32) (μ : JMu), JF m9_was 5 mPl (fun b : Int32 × JMu => (some (.int b.1), b.2)) 102 [some (.ref 86), some (.int (v1)), none, some (.int (v3)), some (.int (v4)), some (.int (v5))] [] μ (f9_was_b102 n v1 v3 v4 v5 μ) := by
  induction n with
  | zero => intros; exact JF_none
  | succ n ih =>
    intro v1 v3 v4 v5 μ
    rw [f9_was_b102]
    refine J_iload dX9_was_102 rfl ?_
    refine J_aload_n dX9_was_104 rfl ?_
    refine J_getR dX9_was_105 wX9_53 rfl jo_mPl_86 jr_86_23 ?_
    refine J_iload_n dX9_was_108 rfl ?_
    refine JF_chk (fun c32 => ?_)
    refine J_iald dX9_was_109 ji_mPl_99 jl_99 (jin_spec c32) rfl ?_
    refine J_icmp_ge dX9_was_110 (tgt := 163) (by decide) (fun c26 => ?_) (fun c26 => ?_)
    · refine J_aload_n dX9_was_163 rfl ?_
      refine J_getR dX9_was_164 wX9_9 rfl jo_mPl_86 jr_86_0 ?_
      refine J_iconst dX9_was_167 (v := (0 : Int32)) rfl ?_
      refine J_iload_n dX9_was_168 rfl ?_
      refine J_iast dX9_was_169 ji_mPl_87 jl_87 (jin_spec (by decide)) (j := 0) rfl ?_
      refine J_iload dX9_was_170 rfl ?_
      exact J_iret dX9_was_172 rfl rfl
    · refine J_iload dX9_was_113 rfl ?_
      refine J_aload_n dX9_was_115 rfl ?_
      refine J_getR dX9_was_116 wX9_56 rfl jo_mPl_86 jr_86_24 ?_
      refine J_bipush dX9_was_119 (v := (40 : Int32)) rfl ?_
      refine J_iload_n dX9_was_121 rfl ?_
      refine J_imul dX9_was_122 ?_
      refine J_iload dX9_was_123 rfl ?_
      refine J_iadd dX9_was_125 ?_
      refine JF_chk (fun c31 => ?_)
      refine J_iald dX9_was_126 ji_mPl_100 jl_100 (jin_spec c31) rfl ?_
      refine J_iconst dX9_was_127 (v := (1 : Int32)) rfl ?_
      refine J_icmp_ne dX9_was_128 (tgt := 138) (by decide) (fun c28 => ?_) (fun c28 => ?_)
      · refine J_aload_n dX9_was_131 rfl ?_
        refine J_callV_w (M' := m9_seenNow) (as := []) dX9_was_132 lX9_195 sm9_seenNow sm9_seenNow_w jo_mPl_86 hci_X9 (by decide) rfl (Nat.le_of_ble_eq_true rfl) (c9_seenNow  _) (fun r30 => ?_)
        refine J_goto dX9_was_135 (tgt := 144) (by decide) ?_
        refine JF_drop [4] ?_
        exact c9_was_b144 _ ih _ _ _ _ _ _
      · refine J_aload_n dX9_was_138 rfl ?_
        refine J_callV_w (M' := m9_seenNow) (as := []) dX9_was_139 lX9_195 sm9_seenNow sm9_seenNow_w jo_mPl_86 hci_X9 (by decide) rfl (Nat.le_of_ble_eq_true rfl) (c9_seenNow  _) (fun r29 => ?_)
        refine J_iconst dX9_was_142 (v := (-1 : Int32)) rfl ?_
        refine J_ixor dX9_was_143 ?_
        refine JF_drop [4] ?_
        exact c9_was_b144 _ ih _ _ _ _ _ _
set_option maxRecDepth 20000 in
theorem c9_was_b31 (n : Nat) : ∀ (v1 : Int32) (v2 : Int32) (v3 : Int32) (μ : JMu), JF m9_was 5 mPl (fun b : Int32 × JMu => (some (.int b.1), b.2)) 31 [some (.ref 86), some (.int (v1)), some (.int (v2)), some (.int (v3)), none, none] [] μ (f9_was_b31 n v1 v2 v3 μ) := by
  induction n with
  | zero => intros; exact JF_none
  | succ n ih =>
    intro v1 v2 v3 μ
    rw [f9_was_b31]
    refine J_iload_n dX9_was_31 rfl ?_
    refine J_aload_n dX9_was_32 rfl ?_
    refine J_getR dX9_was_33 wX9_53 rfl jo_mPl_86 jr_86_23 ?_
    refine J_iload_n dX9_was_36 rfl ?_
    refine JF_chk (fun c41 => ?_)
    refine J_iald dX9_was_37 ji_mPl_99 jl_99 (jin_spec c41) rfl ?_
    refine J_icmp_ge dX9_was_38 (tgt := 76) (by decide) (fun c33 => ?_) (fun c33 => ?_)
    · refine J_iload_n dX9_was_76 rfl ?_
      refine J_if_ne dX9_was_77 (tgt := 88) (by decide) (fun c34 => ?_) (fun c34 => ?_)
      · refine J_aload_n dX9_was_80 rfl ?_
        refine J_ldcw dX9_was_81 kX9_268 ?_
        refine J_callV_w (M' := m9_finding) (as := [_]) dX9_was_84 lX9_81 sm9_finding sm9_finding_w jo_mPl_86 hci_X9 (by decide) rfl (Nat.le_of_ble_eq_true rfl) (c9_finding _ _) (fun r36 => ?_)
        exact J_iret dX9_was_87 rfl rfl
      · refine J_aload_n dX9_was_88 rfl ?_
        refine J_getR dX9_was_89 wX9_9 rfl jo_mPl_86 jr_86_0 ?_
        refine J_iconst dX9_was_92 (v := (0 : Int32)) rfl ?_
        refine J_iald dX9_was_93 ji_mPl_87 jl_87 (jin_spec (by decide)) (j := 0) rfl ?_
        refine J_istore_n dX9_was_94  (by decide) rfl ?_
        refine J_ldc dX9_was_95 kX9_235 ?_
        refine J_istore dX9_was_97  (by decide) rfl ?_
        refine J_iconst dX9_was_99 (v := (0 : Int32)) rfl ?_
        refine J_istore dX9_was_100  (by decide) rfl ?_
        refine JF_drop [2] ?_
        exact c9_was_b102 jN _ _ _ _ _
    · refine J_iload_n dX9_was_41 rfl ?_
      refine J_if_eq dX9_was_42 (tgt := 68) (by decide) (fun c37 => ?_) (fun c37 => ?_)
      · refine JF_drop [2] ?_
        exact c9_was_b68 _ ih _ _ _
      · refine J_aload_n dX9_was_45 rfl ?_
        refine J_getR dX9_was_46 wX9_56 rfl jo_mPl_86 jr_86_24 ?_
        refine J_bipush dX9_was_49 (v := (40 : Int32)) rfl ?_
        refine J_iload_n dX9_was_51 rfl ?_
        refine J_imul dX9_was_52 ?_
        refine J_iload_n dX9_was_53 rfl ?_
        refine J_iadd dX9_was_54 ?_
        refine JF_chk (fun c40 => ?_)
        refine J_iald dX9_was_55 ji_mPl_100 jl_100 (jin_spec c40) rfl ?_
        refine J_iconst dX9_was_56 (v := (0 : Int32)) rfl ?_
        refine J_iconst dX9_was_57 (v := (1 : Int32)) rfl ?_
        refine J_callS_i (M' := m9_within) (as := [_, _, _]) dX9_was_58 lX9_76 sm9_within sm9_within_w (by decide) rfl (Nat.le_of_ble_eq_true rfl) (c9_within _ _ _ _) (fun r38 => ?_)
        refine J_if_eq dX9_was_61 (tgt := 68) (by decide) (fun c39 => ?_) (fun c39 => ?_)
        · refine JF_drop [2] ?_
          exact c9_was_b68 _ ih _ _ _
        · refine J_iconst dX9_was_64 (v := (1 : Int32)) rfl ?_
          refine J_goto dX9_was_65 (tgt := 69) (by decide) ?_
          refine JF_drop [2] ?_
          exact c9_was_b69 _ ih _ _ _ _
set_option maxRecDepth 20000 in
theorem c9_was_b28 (v1 : Int32) (s0 : Int32) (μ : JMu) : JF m9_was 5 mPl (fun b : Int32 × JMu => (some (.int b.1), b.2)) 28 [some (.ref 86), some (.int (v1)), none, none, none, none] [.int (s0)] μ (f9_was_b28 v1 s0 μ) := by
  unfold f9_was_b28
  refine J_istore_n dX9_was_28  (by decide) rfl ?_
  refine J_iconst dX9_was_29 (v := (0 : Int32)) rfl ?_
  refine J_istore_n dX9_was_30  (by decide) rfl ?_
  exact c9_was_b31 jN _ _ _ _
set_option maxRecDepth 20000 in
theorem c9_was (a1 : Int32) (μ : JMu) : ∀ b, f9_was a1 μ = some b → JC m9_was 5 mPl [.ref 86, .int (a1)] μ (some (.int b.1), b.2) := by
  refine JC_of (emb := (fun b : Int32 × JMu => (some (.int b.1), b.2))) (L0 := [some (.ref 86), some (.int (a1)), none, none, none, none]) sm9_was (Nat.le_of_ble_eq_true rfl) rfl ?_
  unfold f9_was
  refine J_iload_n dX9_was_0 rfl ?_
  refine J_callS_i (M' := m9_isSheet) (as := [_]) dX9_was_1 lX9_287 sm9_isSheet sm9_isSheet_w (by decide) rfl (Nat.le_of_ble_eq_true rfl) (c9_isSheet _ _) (fun r42 => ?_)
  refine J_if_ne dX9_was_4 (tgt := 14) (by decide) (fun c43 => ?_) (fun c43 => ?_)
  · refine J_aload_n dX9_was_7 rfl ?_
    refine J_ldc dX9_was_8 kX9_80 ?_
    refine J_callV_w (M' := m9_finding) (as := [_]) dX9_was_10 lX9_81 sm9_finding sm9_finding_w jo_mPl_86 hci_X9 (by decide) rfl (Nat.le_of_ble_eq_true rfl) (c9_finding _ _) (fun r46 => ?_)
    exact J_iret dX9_was_13 rfl rfl
  · refine J_aload_n dX9_was_14 rfl ?_
    refine J_getR dX9_was_15 wX9_50 rfl jo_mPl_86 jr_86_22 ?_
    refine J_iload_n dX9_was_18 rfl ?_
    refine JF_chk (fun c45 => ?_)
    refine J_iald dX9_was_19 ji_mPl_98 jl_98 (jin_spec c45) rfl ?_
    refine J_if_le dX9_was_20 (tgt := 27) (by decide) (fun c44 => ?_) (fun c44 => ?_)
    · refine J_iconst dX9_was_27 (v := (0 : Int32)) rfl ?_
      exact c9_was_b28 _ _ _
    · refine J_iconst dX9_was_23 (v := (1 : Int32)) rfl ?_
      refine J_goto dX9_was_24 (tgt := 28) (by decide) ?_
      exact c9_was_b28 _ _ _
set_option maxRecDepth 20000 in
theorem c9_dear_b50 (k24 : Int32 → Int32 → Int32 → Int32 → JMu → Option (Int32 × JMu)) (hk24 : ∀ (v1 : Int32) (v2 : Int32) (v3 : Int32) (v4 : Int32) (μ : JMu), JF m9_dear 4 mPl (fun b : Int32 × JMu => (some (.int b.1), b.2)) 24 [some (.ref 86), some (.int (v1)), some (.int (v2)), some (.int (v3)), some (.int (v4)), none] [] μ (k24 v1 v2 v3 v4 μ)) (v1 : Int32) (v2 : Int32) (v3 : Int32) (v4 : Int32) (s0 : Int32) (μ : JMu) : JF m9_dear 4 mPl (fun b : Int32 × JMu => (some (.int b.1), b.2)) 50 [some (.ref 86), some (.int (v1)), some (.int (v2)), some (.int (v3)), some (.int (v4)), none] [.int (s0)] μ (f9_dear_b50 k24 v1 v2 v3 v4 s0 μ) := by
  unfold f9_dear_b50
  refine J_istore dX9_dear_50  (by decide) rfl ?_
  refine J_iload dX9_dear_52 rfl ?_
  refine J_iload_n dX9_dear_54 rfl ?_
  refine J_icmp_le dX9_dear_55 (tgt := 70) (by decide) (fun c12 => ?_) (fun c12 => ?_)
  · refine J_iinc dX9_dear_70 rfl (c0 := (1 : Int32)) rfl (by decide) rfl ?_
    refine J_goto dX9_dear_73 (tgt := 24) (by decide) ?_
    refine JF_drop [5] ?_
    exact hk24 _ _ _ _ _
  · refine J_iload dX9_dear_58 rfl ?_
    refine J_iload_n dX9_dear_60 rfl ?_
    refine J_icmp_gt dX9_dear_61 (tgt := 70) (by decide) (fun c13 => ?_) (fun c13 => ?_)
    · refine J_iinc dX9_dear_70 rfl (c0 := (1 : Int32)) rfl (by decide) rfl ?_
      refine J_goto dX9_dear_73 (tgt := 24) (by decide) ?_
      refine JF_drop [5] ?_
      exact hk24 _ _ _ _ _
    · refine J_iload dX9_dear_64 rfl ?_
      refine J_istore_n dX9_dear_66  (by decide) rfl ?_
      refine J_iload dX9_dear_67 rfl ?_
      refine J_istore_n dX9_dear_69  (by decide) rfl ?_
      refine J_iinc dX9_dear_70 rfl (c0 := (1 : Int32)) rfl (by decide) rfl ?_
      refine J_goto dX9_dear_73 (tgt := 24) (by decide) ?_
      refine JF_drop [5] ?_
      exact hk24 _ _ _ _ _
set_option maxRecDepth 20000 in
theorem c9_dear_b24 (n : Nat) : ∀ (v1 : Int32) (v2 : Int32) (v3 : Int32) (v4 : Int32) (μ : JMu), JF m9_dear 4 mPl (fun b : Int32 × JMu => (some (.int b.1), b.2)) 24 [some (.ref 86), some (.int (v1)), some (.int (v2)), some (.int (v3)), some (.int (v4)), none] [] μ (f9_dear_b24 n v1 v2 v3 v4 μ) := by
  induction n with
  | zero => intros; exact JF_none
  | succ n ih =>
    intro v1 v2 v3 v4 μ
    rw [f9_dear_b24]
    refine J_iload dX9_dear_24 rfl ?_
    refine J_bipush dX9_dear_26 (v := (24 : Int32)) rfl ?_
    refine J_icmp_ge dX9_dear_28 (tgt := 76) (by decide) (fun c14 => ?_) (fun c14 => ?_)
    · refine J_iload_n dX9_dear_76 rfl ?_
      refine J_if_ge dX9_dear_77 (tgt := 90) (by decide) (fun c15 => ?_) (fun c15 => ?_)
      · refine J_iload_n dX9_dear_90 rfl ?_
        exact J_iret dX9_dear_91 rfl rfl
      · refine J_aload_n dX9_dear_80 rfl ?_
        refine J_ldcw dX9_dear_81 kX9_268 ?_
        refine J_callV_w (M' := m9_finding) (as := [_]) dX9_dear_84 lX9_81 sm9_finding sm9_finding_w jo_mPl_86 hci_X9 (by decide) rfl (Nat.le_of_ble_eq_true rfl) (c9_finding _ _) (fun r16 => ?_)
        refine J_goto dX9_dear_87 (tgt := 91) (by decide) ?_
        exact J_iret dX9_dear_91 rfl rfl
    · refine J_aload_n dX9_dear_31 rfl ?_
      refine J_iload dX9_dear_32 rfl ?_
      refine J_callV_i (M' := m9_holders) (as := [_]) dX9_dear_34 lX9_186 sm9_holders sm9_holders_w jo_mPl_86 hci_X9 (by decide) rfl (Nat.le_of_ble_eq_true rfl) (c9_holders _ _) (fun r17 => ?_)
      refine J_if_ne dX9_dear_37 (tgt := 49) (by decide) (fun c18 => ?_) (fun c18 => ?_)
      · refine J_aload_n dX9_dear_40 rfl ?_
        refine J_iload dX9_dear_41 rfl ?_
        refine J_callV_w (M' := m9_rentOf) (as := [_]) dX9_dear_43 lX9_198 sm9_rentOf sm9_rentOf_w jo_mPl_86 hci_X9 (by decide) rfl (Nat.le_of_ble_eq_true rfl) (c9_rentOf _ _) (fun r19 => ?_)
        refine J_goto dX9_dear_46 (tgt := 50) (by decide) ?_
        exact c9_dear_b50 _ ih _ _ _ _ _ _
      · refine J_iconst dX9_dear_49 (v := (-1 : Int32)) rfl ?_
        exact c9_dear_b50 _ ih _ _ _ _ _ _
set_option maxRecDepth 20000 in
theorem c9_dear (a1 : Int32) (μ : JMu) : ∀ b, f9_dear a1 μ = some b → JC m9_dear 4 mPl [.ref 86, .int (a1)] μ (some (.int b.1), b.2) := by
  refine JC_of (emb := (fun b : Int32 × JMu => (some (.int b.1), b.2))) (L0 := [some (.ref 86), some (.int (a1)), none, none, none, none]) sm9_dear (Nat.le_of_ble_eq_true rfl) rfl ?_
  unfold f9_dear
  refine J_iload_n dX9_dear_0 rfl ?_
  refine J_iconst dX9_dear_1 (v := (0 : Int32)) rfl ?_
  refine J_bipush dX9_dear_2 (v := (99 : Int32)) rfl ?_
  refine J_callS_i (M' := m9_within) (as := [_, _, _]) dX9_dear_4 lX9_76 sm9_within sm9_within_w (by decide) rfl (Nat.le_of_ble_eq_true rfl) (c9_within _ _ _ _) (fun r20 => ?_)
  refine J_if_ne dX9_dear_7 (tgt := 17) (by decide) (fun c21 => ?_) (fun c21 => ?_)
  · refine J_aload_n dX9_dear_10 rfl ?_
    refine J_ldc dX9_dear_11 kX9_80 ?_
    refine J_callV_w (M' := m9_finding) (as := [_]) dX9_dear_13 lX9_81 sm9_finding sm9_finding_w jo_mPl_86 hci_X9 (by decide) rfl (Nat.le_of_ble_eq_true rfl) (c9_finding _ _) (fun r22 => ?_)
    exact J_iret dX9_dear_16 rfl rfl
  · refine J_iconst dX9_dear_17 (v := (-1 : Int32)) rfl ?_
    refine J_istore_n dX9_dear_18  (by decide) rfl ?_
    refine J_iconst dX9_dear_19 (v := (-1 : Int32)) rfl ?_
    refine J_istore_n dX9_dear_20  (by decide) rfl ?_
    refine J_iconst dX9_dear_21 (v := (0 : Int32)) rfl ?_
    refine J_istore dX9_dear_22  (by decide) rfl ?_
    exact c9_dear_b24 jN _ _ _ _ _
set_option maxRecDepth 20000 in
theorem c9_seed (a1 : Int32) (μ : JMu) : ∀ b, f9_seed a1 μ = some b → JC m9_seed 1 mPl [.ref 86, .int (a1)] μ (some (.int b.1), b.2) := by
  refine JC_of (emb := (fun b : Int32 × JMu => (some (.int b.1), b.2))) (L0 := [some (.ref 86), some (.int (a1))]) sm9_seed (Nat.le_of_ble_eq_true rfl) rfl ?_
  unfold f9_seed
  refine J_aload_n dX9_seed_0 rfl ?_
  refine J_iconst dX9_seed_1 (v := (5 : Int32)) rfl ?_
  refine J_iload_n dX9_seed_2 rfl ?_
  refine J_callV_w (M' := m9_turn) (as := [_, _]) dX9_seed_3 lX9_201 sm9_turn sm9_turn_w jo_mPl_86 hci_X9 (by decide) rfl (Nat.le_of_ble_eq_true rfl) (c9_turn _ _ _) (fun r2 => ?_)
  exact J_iret dX9_seed_6 rfl rfl
set_option maxRecDepth 20000 in
theorem c9_runs (a1 : Int32) (μ : JMu) : ∀ b, f9_runs a1 μ = some b → JC m9_runs 0 mPl [.ref 86, .int (a1)] μ (none, b) := by
  refine JC_of (emb := (fun b : JMu => (none, b))) (L0 := [some (.ref 86), some (.int (a1))]) sm9_runs (Nat.le_of_ble_eq_true rfl) rfl ?_
  unfold f9_runs
  refine J_aload_n dX9_runs_0 rfl ?_
  refine J_getI dX9_runs_1 wX9_296 rfl jo_mPl_86 ?_
  refine J_bipush dX9_runs_4 (v := (40 : Int32)) rfl ?_
  refine J_icmp_ge dX9_runs_6 (tgt := 29) (by decide) (fun c3 => ?_) (fun c3 => ?_)
  · exact J_vret dX9_runs_29 rfl rfl
  · refine J_aload_n dX9_runs_9 rfl ?_
    refine J_getR dX9_runs_10 wX9_47 rfl jo_mPl_86 jr_86_17 ?_
    refine J_aload_n dX9_runs_13 rfl ?_
    refine J_getI dX9_runs_14 wX9_296 rfl jo_mPl_86 ?_
    refine J_iload_n dX9_runs_17 rfl ?_
    refine JF_chk (fun c4 => ?_)
    refine J_iast dX9_runs_18 ji_mPl_97 jl_97 (jin_spec c4) rfl ?_
    refine J_aload_n dX9_runs_19 rfl ?_
    refine J_dup dX9_runs_20 rfl ?_
    refine J_getI dX9_runs_21 wX9_296 rfl jo_mPl_86 ?_
    refine J_iconst dX9_runs_24 (v := (1 : Int32)) rfl ?_
    refine J_iadd dX9_runs_25 ?_
    refine J_putI dX9_runs_26 wX9_296 rfl jo_mPl_86 ?_
    exact J_vret dX9_runs_29 rfl rfl
set_option maxRecDepth 20000 in
theorem c9_looksOf_b32 (v1 : Int32) (v2 : Int32) (μ : JMu) : JF m9_looksOf 1 mPl (fun b : Int32 × JMu => (some (.int b.1), b.2)) 32 [some (.ref 86), some (.int (v1)), some (.int (v2))] [] μ (f9_looksOf_b32 v1 v2 μ) := by
  unfold f9_looksOf_b32
  refine J_aload_n dX9_looksOf_32 rfl ?_
  refine J_bipush dX9_looksOf_33 (v := (10 : Int32)) rfl ?_
  refine J_callV_v (M' := m9_runs) (as := [_]) dX9_looksOf_35 lX9_302 sm9_runs sm9_runs_w jo_mPl_86 hci_X9 (by decide) rfl (Nat.le_of_ble_eq_true rfl) (c9_runs _ _) (fun r7 => ?_)
  refine J_iload_n dX9_looksOf_38 rfl ?_
  refine J_if_eq dX9_looksOf_39 (tgt := 53) (by decide) (fun c8 => ?_) (fun c8 => ?_)
  · refine J_iload_n dX9_looksOf_53 rfl ?_
    refine J_aload_n dX9_looksOf_54 rfl ?_
    refine J_getI dX9_looksOf_55 wX9_305 rfl jo_mPl_86 ?_
    refine J_iadd dX9_looksOf_58 ?_
    exact J_iret dX9_looksOf_59 rfl rfl
  · refine J_iload_n dX9_looksOf_42 rfl ?_
    refine J_aload_n dX9_looksOf_43 rfl ?_
    refine J_getI dX9_looksOf_44 wX9_305 rfl jo_mPl_86 ?_
    refine J_iadd dX9_looksOf_47 ?_
    refine J_iconst dX9_looksOf_48 (v := (3 : Int32)) rfl ?_
    refine J_imul dX9_looksOf_49 ?_
    refine J_goto dX9_looksOf_50 (tgt := 59) (by decide) ?_
    exact J_iret dX9_looksOf_59 rfl rfl
set_option maxRecDepth 20000 in
theorem c9_looksOf_b21 (v1 : Int32) (s0 : Int32) (μ : JMu) : JF m9_looksOf 1 mPl (fun b : Int32 × JMu => (some (.int b.1), b.2)) 21 [some (.ref 86), some (.int (v1)), none] [.int (s0)] μ (f9_looksOf_b21 v1 s0 μ) := by
  unfold f9_looksOf_b21
  refine J_istore_n dX9_looksOf_21  (by decide) rfl ?_
  refine J_iload_n dX9_looksOf_22 rfl ?_
  refine J_if_eq dX9_looksOf_23 (tgt := 32) (by decide) (fun c9 => ?_) (fun c9 => ?_)
  · exact c9_looksOf_b32 _ _ _
  · refine J_aload_n dX9_looksOf_26 rfl ?_
    refine J_bipush dX9_looksOf_27 (v := (20 : Int32)) rfl ?_
    refine J_callV_v (M' := m9_runs) (as := [_]) dX9_looksOf_29 lX9_302 sm9_runs sm9_runs_w jo_mPl_86 hci_X9 (by decide) rfl (Nat.le_of_ble_eq_true rfl) (c9_runs _ _) (fun r10 => ?_)
    exact c9_looksOf_b32 _ _ _
set_option maxRecDepth 20000 in
theorem c9_looksOf_b16 (v1 : Int32) (μ : JMu) : JF m9_looksOf 1 mPl (fun b : Int32 × JMu => (some (.int b.1), b.2)) 16 [some (.ref 86), some (.int (v1)), none] [] μ (f9_looksOf_b16 v1 μ) := by
  unfold f9_looksOf_b16
  refine J_iconst dX9_looksOf_16 (v := (1 : Int32)) rfl ?_
  refine J_goto dX9_looksOf_17 (tgt := 21) (by decide) ?_
  exact c9_looksOf_b21 _ _ _
set_option maxRecDepth 20000 in
theorem c9_looksOf (a1 : Int32) (μ : JMu) : ∀ b, f9_looksOf a1 μ = some b → JC m9_looksOf 1 mPl [.ref 86, .int (a1)] μ (some (.int b.1), b.2) := by
  refine JC_of (emb := (fun b : Int32 × JMu => (some (.int b.1), b.2))) (L0 := [some (.ref 86), some (.int (a1)), none]) sm9_looksOf (Nat.le_of_ble_eq_true rfl) rfl ?_
  unfold f9_looksOf
  refine J_aload_n dX9_looksOf_0 rfl ?_
  refine J_getI dX9_looksOf_1 wX9_299 rfl jo_mPl_86 ?_
  refine J_iconst dX9_looksOf_4 (v := (1 : Int32)) rfl ?_
  refine J_icmp_eq dX9_looksOf_5 (tgt := 16) (by decide) (fun c11 => ?_) (fun c11 => ?_)
  · exact c9_looksOf_b16 _ _
  · refine J_aload_n dX9_looksOf_8 rfl ?_
    refine J_getI dX9_looksOf_9 wX9_299 rfl jo_mPl_86 ?_
    refine J_iconst dX9_looksOf_12 (v := (4 : Int32)) rfl ?_
    refine J_icmp_ne dX9_looksOf_13 (tgt := 20) (by decide) (fun c12 => ?_) (fun c12 => ?_)
    · exact c9_looksOf_b16 _ _
    · refine J_iconst dX9_looksOf_20 (v := (0 : Int32)) rfl ?_
      exact c9_looksOf_b21 _ _ _
set_option maxRecDepth 20000 in
theorem c9_holdsOf_b72 (s0 : Int32) (μ : JMu) : JF m9_holdsOf 1 mPl (fun b : Int32 × JMu => (some (.int b.1), b.2)) 72 [some (.ref 86), none, none, none] [.int (s0)] μ (f9_holdsOf_b72 s0 μ) := by
  unfold f9_holdsOf_b72
  refine J_istore_n dX9_holdsOf_72  (by decide) rfl ?_
  refine J_aload_n dX9_holdsOf_73 rfl ?_
  refine J_getI dX9_holdsOf_74 wX9_299 rfl jo_mPl_86 ?_
  refine J_iconst dX9_holdsOf_77 (v := (5 : Int32)) rfl ?_
  refine J_icmp_ne dX9_holdsOf_78 (tgt := 90) (by decide) (fun c10 => ?_) (fun c10 => ?_)
  · refine J_iload_n dX9_holdsOf_81 rfl ?_
    refine J_aload_n dX9_holdsOf_82 rfl ?_
    refine J_getI dX9_holdsOf_83 wX9_305 rfl jo_mPl_86 ?_
    refine J_ixor dX9_holdsOf_86 ?_
    refine J_goto dX9_holdsOf_87 (tgt := 91) (by decide) ?_
    exact J_iret dX9_holdsOf_91 rfl rfl
  · refine J_iload_n dX9_holdsOf_90 rfl ?_
    exact J_iret dX9_holdsOf_91 rfl rfl
set_option maxRecDepth 20000 in
theorem c9_holdsOf_b46 (v1 : Int32) (v2 : Int32) (μ : JMu) : JF m9_holdsOf 1 mPl (fun b : Int32 × JMu => (some (.int b.1), b.2)) 46 [some (.ref 86), some (.int (v1)), some (.int (v2)), none] [] μ (f9_holdsOf_b46 v1 v2 μ) := by
  unfold f9_holdsOf_b46
  refine J_aload_n dX9_holdsOf_46 rfl ?_
  refine J_bipush dX9_holdsOf_47 (v := (12 : Int32)) rfl ?_
  refine J_callV_v (M' := m9_runs) (as := [_]) dX9_holdsOf_49 lX9_302 sm9_runs sm9_runs_w jo_mPl_86 hci_X9 (by decide) rfl (Nat.le_of_ble_eq_true rfl) (c9_runs _ _) (fun r11 => ?_)
  refine J_iload_n dX9_holdsOf_52 rfl ?_
  refine J_if_eq dX9_holdsOf_53 (tgt := 66) (by decide) (fun c12 => ?_) (fun c12 => ?_)
  · refine J_iload_n dX9_holdsOf_66 rfl ?_
    refine J_aload_n dX9_holdsOf_67 rfl ?_
    refine J_getI dX9_holdsOf_68 wX9_314 rfl jo_mPl_86 ?_
    refine J_isub dX9_holdsOf_71 ?_
    refine JF_drop [1, 2] ?_
    exact c9_holdsOf_b72 _ _
  · refine J_iload_n dX9_holdsOf_56 rfl ?_
    refine J_aload_n dX9_holdsOf_57 rfl ?_
    refine J_getI dX9_holdsOf_58 wX9_314 rfl jo_mPl_86 ?_
    refine J_isub dX9_holdsOf_61 ?_
    refine J_ineg dX9_holdsOf_62 ?_
    refine J_goto dX9_holdsOf_63 (tgt := 72) (by decide) ?_
    refine JF_drop [1, 2] ?_
    exact c9_holdsOf_b72 _ _
set_option maxRecDepth 20000 in
theorem c9_holdsOf_b35 (v1 : Int32) (s0 : Int32) (μ : JMu) : JF m9_holdsOf 1 mPl (fun b : Int32 × JMu => (some (.int b.1), b.2)) 35 [some (.ref 86), some (.int (v1)), none, none] [.int (s0)] μ (f9_holdsOf_b35 v1 s0 μ) := by
  unfold f9_holdsOf_b35
  refine J_istore_n dX9_holdsOf_35  (by decide) rfl ?_
  refine J_iload_n dX9_holdsOf_36 rfl ?_
  refine J_if_eq dX9_holdsOf_37 (tgt := 46) (by decide) (fun c13 => ?_) (fun c13 => ?_)
  · exact c9_holdsOf_b46 _ _ _
  · refine J_aload_n dX9_holdsOf_40 rfl ?_
    refine J_bipush dX9_holdsOf_41 (v := (30 : Int32)) rfl ?_
    refine J_callV_v (M' := m9_runs) (as := [_]) dX9_holdsOf_43 lX9_302 sm9_runs sm9_runs_w jo_mPl_86 hci_X9 (by decide) rfl (Nat.le_of_ble_eq_true rfl) (c9_runs _ _) (fun r14 => ?_)
    exact c9_holdsOf_b46 _ _ _
set_option maxRecDepth 20000 in
theorem c9_holdsOf_b30 (v1 : Int32) (μ : JMu) : JF m9_holdsOf 1 mPl (fun b : Int32 × JMu => (some (.int b.1), b.2)) 30 [some (.ref 86), some (.int (v1)), none, none] [] μ (f9_holdsOf_b30 v1 μ) := by
  unfold f9_holdsOf_b30
  refine J_iconst dX9_holdsOf_30 (v := (1 : Int32)) rfl ?_
  refine J_goto dX9_holdsOf_31 (tgt := 35) (by decide) ?_
  exact c9_holdsOf_b35 _ _ _
set_option maxRecDepth 20000 in
theorem c9_holdsOf_b14 (v1 : Int32) (μ : JMu) : JF m9_holdsOf 1 mPl (fun b : Int32 × JMu => (some (.int b.1), b.2)) 14 [some (.ref 86), some (.int (v1)), none, none] [] μ (f9_holdsOf_b14 v1 μ) := by
  unfold f9_holdsOf_b14
  refine J_aload_n dX9_holdsOf_14 rfl ?_
  refine J_getI dX9_holdsOf_15 wX9_299 rfl jo_mPl_86 ?_
  refine J_iconst dX9_holdsOf_18 (v := (2 : Int32)) rfl ?_
  refine J_icmp_eq dX9_holdsOf_19 (tgt := 30) (by decide) (fun c15 => ?_) (fun c15 => ?_)
  · exact c9_holdsOf_b30 _ _
  · refine J_aload_n dX9_holdsOf_22 rfl ?_
    refine J_getI dX9_holdsOf_23 wX9_299 rfl jo_mPl_86 ?_
    refine J_iconst dX9_holdsOf_26 (v := (5 : Int32)) rfl ?_
    refine J_icmp_ne dX9_holdsOf_27 (tgt := 34) (by decide) (fun c16 => ?_) (fun c16 => ?_)
    · exact c9_holdsOf_b30 _ _
    · refine J_iconst dX9_holdsOf_34 (v := (0 : Int32)) rfl ?_
      exact c9_holdsOf_b35 _ _ _
set_option maxRecDepth 20000 in
theorem c9_holdsOf (a1 : Int32) (μ : JMu) : ∀ b, f9_holdsOf a1 μ = some b → JC m9_holdsOf 1 mPl [.ref 86, .int (a1)] μ (some (.int b.1), b.2) := by
  refine JC_of (emb := (fun b : Int32 × JMu => (some (.int b.1), b.2))) (L0 := [some (.ref 86), some (.int (a1)), none, none]) sm9_holdsOf (Nat.le_of_ble_eq_true rfl) rfl ?_
  unfold f9_holdsOf
  refine J_aload_n dX9_holdsOf_0 rfl ?_
  refine J_getI dX9_holdsOf_1 wX9_299 rfl jo_mPl_86 ?_
  refine J_iconst dX9_holdsOf_4 (v := (5 : Int32)) rfl ?_
  refine J_icmp_ne dX9_holdsOf_5 (tgt := 14) (by decide) (fun c17 => ?_) (fun c17 => ?_)
  · refine J_aload_n dX9_holdsOf_8 rfl ?_
    refine J_bipush dX9_holdsOf_9 (v := (60 : Int32)) rfl ?_
    refine J_callV_v (M' := m9_runs) (as := [_]) dX9_holdsOf_11 lX9_302 sm9_runs sm9_runs_w jo_mPl_86 hci_X9 (by decide) rfl (Nat.le_of_ble_eq_true rfl) (c9_runs _ _) (fun r18 => ?_)
    exact c9_holdsOf_b14 _ _
  · exact c9_holdsOf_b14 _ _
set_option maxRecDepth 20000 in
theorem c9_paysOf_b53 (v2 : Int32) (v3 : Int32) (μ : JMu) : JF m9_paysOf 2 mPl (fun b : Int32 × JMu => (some (.int b.1), b.2)) 53 [some (.ref 86), none, some (.int (v2)), some (.int (v3)), none] [] μ (f9_paysOf_b53 v2 v3 μ) := by
  unfold f9_paysOf_b53
  refine J_aload_n dX9_paysOf_53 rfl ?_
  refine J_bipush dX9_paysOf_54 (v := (11 : Int32)) rfl ?_
  refine J_callV_v (M' := m9_runs) (as := [_]) dX9_paysOf_56 lX9_302 sm9_runs sm9_runs_w jo_mPl_86 hci_X9 (by decide) rfl (Nat.le_of_ble_eq_true rfl) (c9_runs _ _) (fun r11 => ?_)
  refine J_aload_n dX9_paysOf_59 rfl ?_
  refine J_iload_n dX9_paysOf_60 rfl ?_
  refine J_callV_w (M' := m9_looksOf) (as := [_]) dX9_paysOf_61 lX9_308 sm9_looksOf sm9_looksOf_w jo_mPl_86 hci_X9 (by decide) rfl (Nat.le_of_ble_eq_true rfl) (c9_looksOf _ _) (fun r12 => ?_)
  refine J_iconst dX9_paysOf_64 (v := (2 : Int32)) rfl ?_
  refine J_imul dX9_paysOf_65 ?_
  refine J_istore dX9_paysOf_66  (by decide) rfl ?_
  refine J_iload_n dX9_paysOf_68 rfl ?_
  refine J_if_eq dX9_paysOf_69 (tgt := 83) (by decide) (fun c13 => ?_) (fun c13 => ?_)
  · refine J_iload dX9_paysOf_83 rfl ?_
    exact J_iret dX9_paysOf_85 rfl rfl
  · refine J_iload dX9_paysOf_72 rfl ?_
    refine J_aload_n dX9_paysOf_74 rfl ?_
    refine J_iconst dX9_paysOf_75 (v := (1 : Int32)) rfl ?_
    refine J_callV_w (M' := m9_holdsOf) (as := [_]) dX9_paysOf_76 lX9_311 sm9_holdsOf sm9_holdsOf_w jo_mPl_86 hci_X9 (by decide) rfl (Nat.le_of_ble_eq_true rfl) (c9_holdsOf _ _) (fun r14 => ?_)
    refine J_isub dX9_paysOf_79 ?_
    refine J_goto dX9_paysOf_80 (tgt := 85) (by decide) ?_
    exact J_iret dX9_paysOf_85 rfl rfl
set_option maxRecDepth 20000 in
theorem c9_paysOf_b42 (v2 : Int32) (s0 : Int32) (μ : JMu) : JF m9_paysOf 2 mPl (fun b : Int32 × JMu => (some (.int b.1), b.2)) 42 [some (.ref 86), none, some (.int (v2)), none, none] [.int (s0)] μ (f9_paysOf_b42 v2 s0 μ) := by
  unfold f9_paysOf_b42
  refine J_istore_n dX9_paysOf_42  (by decide) rfl ?_
  refine J_iload_n dX9_paysOf_43 rfl ?_
  refine J_if_eq dX9_paysOf_44 (tgt := 53) (by decide) (fun c15 => ?_) (fun c15 => ?_)
  · exact c9_paysOf_b53 _ _ _
  · refine J_aload_n dX9_paysOf_47 rfl ?_
    refine J_bipush dX9_paysOf_48 (v := (40 : Int32)) rfl ?_
    refine J_callV_v (M' := m9_runs) (as := [_]) dX9_paysOf_50 lX9_302 sm9_runs sm9_runs_w jo_mPl_86 hci_X9 (by decide) rfl (Nat.le_of_ble_eq_true rfl) (c9_runs _ _) (fun r16 => ?_)
    exact c9_paysOf_b53 _ _ _
set_option maxRecDepth 20000 in
theorem c9_paysOf_b37 (v2 : Int32) (μ : JMu) : JF m9_paysOf 2 mPl (fun b : Int32 × JMu => (some (.int b.1), b.2)) 37 [some (.ref 86), none, some (.int (v2)), none, none] [] μ (f9_paysOf_b37 v2 μ) := by
  unfold f9_paysOf_b37
  refine J_iconst dX9_paysOf_37 (v := (1 : Int32)) rfl ?_
  refine J_goto dX9_paysOf_38 (tgt := 42) (by decide) ?_
  exact c9_paysOf_b42 _ _ _
set_option maxRecDepth 20000 in
theorem c9_paysOf_b20 (v2 : Int32) (μ : JMu) : JF m9_paysOf 2 mPl (fun b : Int32 × JMu => (some (.int b.1), b.2)) 20 [some (.ref 86), none, some (.int (v2)), none, none] [] μ (f9_paysOf_b20 v2 μ) := by
  unfold f9_paysOf_b20
  refine J_aload_n dX9_paysOf_20 rfl ?_
  refine J_getI dX9_paysOf_21 wX9_299 rfl jo_mPl_86 ?_
  refine J_iconst dX9_paysOf_24 (v := (3 : Int32)) rfl ?_
  refine J_icmp_eq dX9_paysOf_25 (tgt := 37) (by decide) (fun c17 => ?_) (fun c17 => ?_)
  · exact c9_paysOf_b37 _ _
  · refine J_aload_n dX9_paysOf_28 rfl ?_
    refine J_getI dX9_paysOf_29 wX9_299 rfl jo_mPl_86 ?_
    refine J_bipush dX9_paysOf_32 (v := (6 : Int32)) rfl ?_
    refine J_icmp_ne dX9_paysOf_34 (tgt := 41) (by decide) (fun c18 => ?_) (fun c18 => ?_)
    · exact c9_paysOf_b37 _ _
    · refine J_iconst dX9_paysOf_41 (v := (0 : Int32)) rfl ?_
      exact c9_paysOf_b42 _ _ _
set_option maxRecDepth 20000 in
theorem c9_paysOf (a1 : Int32) (μ : JMu) : ∀ b, f9_paysOf a1 μ = some b → JC m9_paysOf 2 mPl [.ref 86, .int (a1)] μ (some (.int b.1), b.2) := by
  refine JC_of (emb := (fun b : Int32 × JMu => (some (.int b.1), b.2))) (L0 := [some (.ref 86), some (.int (a1)), none, none, none]) sm9_paysOf (Nat.le_of_ble_eq_true rfl) rfl ?_
  unfold f9_paysOf
  refine J_iload_n dX9_paysOf_0 rfl ?_
  refine J_istore_n dX9_paysOf_1  (by decide) rfl ?_
  refine J_aload_n dX9_paysOf_2 rfl ?_
  refine J_getI dX9_paysOf_3 wX9_299 rfl jo_mPl_86 ?_
  refine J_bipush dX9_paysOf_6 (v := (6 : Int32)) rfl ?_
  refine J_icmp_ne dX9_paysOf_8 (tgt := 20) (by decide) (fun c19 => ?_) (fun c19 => ?_)
  · refine J_aload_n dX9_paysOf_11 rfl ?_
    refine J_bipush dX9_paysOf_12 (v := (70 : Int32)) rfl ?_
    refine J_callV_v (M' := m9_runs) (as := [_]) dX9_paysOf_14 lX9_302 sm9_runs sm9_runs_w jo_mPl_86 hci_X9 (by decide) rfl (Nat.le_of_ble_eq_true rfl) (c9_runs _ _) (fun r20 => ?_)
    refine J_iinc dX9_paysOf_17 rfl (c0 := (1 : Int32)) rfl (by decide) rfl ?_
    refine JF_drop [1] ?_
    exact c9_paysOf_b20 _ _
  · refine JF_drop [1] ?_
    exact c9_paysOf_b20 _ _
set_option maxRecDepth 20000 in
theorem c9_plainTells (a1 : Int32) (μ : JMu) : ∀ b, f9_plainTells a1 μ = some b → JC m9_plainTells 3 mPl [.ref 86, .int (a1)] μ (some (.int b.1), b.2) := by
  refine JC_of (emb := (fun b : Int32 × JMu => (some (.int b.1), b.2))) (L0 := [some (.ref 86), some (.int (a1)), none]) sm9_plainTells (Nat.le_of_ble_eq_true rfl) rfl ?_
  unfold f9_plainTells
  refine J_aload_n dX9_plainTells_0 rfl ?_
  refine J_bipush dX9_plainTells_1 (v := (13 : Int32)) rfl ?_
  refine J_callV_v (M' := m9_runs) (as := [_]) dX9_plainTells_3 lX9_302 sm9_runs sm9_runs_w jo_mPl_86 hci_X9 (by decide) rfl (Nat.le_of_ble_eq_true rfl) (c9_runs _ _) (fun r4 => ?_)
  refine J_aload_n dX9_plainTells_6 rfl ?_
  refine J_iload_n dX9_plainTells_7 rfl ?_
  refine J_callV_w (M' := m9_paysOf) (as := [_]) dX9_plainTells_8 lX9_317 sm9_paysOf sm9_paysOf_w jo_mPl_86 hci_X9 (by decide) rfl (Nat.le_of_ble_eq_true rfl) (c9_paysOf _ _) (fun r5 => ?_)
  refine J_istore_n dX9_plainTells_11  (by decide) rfl ?_
  refine J_iload_n dX9_plainTells_12 rfl ?_
  refine J_aload_n dX9_plainTells_13 rfl ?_
  refine J_iload_n dX9_plainTells_14 rfl ?_
  refine J_callV_w (M' := m9_holdsOf) (as := [_]) dX9_plainTells_15 lX9_311 sm9_holdsOf sm9_holdsOf_w jo_mPl_86 hci_X9 (by decide) rfl (Nat.le_of_ble_eq_true rfl) (c9_holdsOf _ _) (fun r6 => ?_)
  refine J_ixor dX9_plainTells_18 ?_
  exact J_iret dX9_plainTells_19 rfl rfl
set_option maxRecDepth 20000 in
theorem c9_tellsOf (a1 : Int32) (μ : JMu) : ∀ b, f9_tellsOf a1 μ = some b → JC m9_tellsOf 4 mPl [.ref 86, .int (a1)] μ (some (.int b.1), b.2) := by
  refine JC_of (emb := (fun b : Int32 × JMu => (some (.int b.1), b.2))) (L0 := [some (.ref 86), some (.int (a1)), none]) sm9_tellsOf (Nat.le_of_ble_eq_true rfl) rfl ?_
  unfold f9_tellsOf
  refine J_aload_n dX9_tellsOf_0 rfl ?_
  refine J_getI dX9_tellsOf_1 wX9_299 rfl jo_mPl_86 ?_
  refine J_iconst dX9_tellsOf_4 (v := (5 : Int32)) rfl ?_
  refine J_icmp_ne dX9_tellsOf_5 (tgt := 28) (by decide) (fun c10 => ?_) (fun c10 => ?_)
  · refine J_aload_n dX9_tellsOf_8 rfl ?_
    refine J_bipush dX9_tellsOf_9 (v := (61 : Int32)) rfl ?_
    refine J_callV_v (M' := m9_runs) (as := [_]) dX9_tellsOf_11 lX9_302 sm9_runs sm9_runs_w jo_mPl_86 hci_X9 (by decide) rfl (Nat.le_of_ble_eq_true rfl) (c9_runs _ _) (fun r16 => ?_)
    refine J_aload_n dX9_tellsOf_14 rfl ?_
    refine J_iload_n dX9_tellsOf_15 rfl ?_
    refine J_callV_w (M' := m9_paysOf) (as := [_]) dX9_tellsOf_16 lX9_317 sm9_paysOf sm9_paysOf_w jo_mPl_86 hci_X9 (by decide) rfl (Nat.le_of_ble_eq_true rfl) (c9_paysOf _ _) (fun r17 => ?_)
    refine J_istore_n dX9_tellsOf_19  (by decide) rfl ?_
    refine J_iload_n dX9_tellsOf_20 rfl ?_
    refine J_aload_n dX9_tellsOf_21 rfl ?_
    refine J_iload_n dX9_tellsOf_22 rfl ?_
    refine J_callV_w (M' := m9_plainTells) (as := [_]) dX9_tellsOf_23 lX9_320 sm9_plainTells sm9_plainTells_w jo_mPl_86 hci_X9 (by decide) rfl (Nat.le_of_ble_eq_true rfl) (c9_plainTells _ _) (fun r18 => ?_)
    refine J_isub dX9_tellsOf_26 ?_
    exact J_iret dX9_tellsOf_27 rfl rfl
  · refine J_aload_n dX9_tellsOf_28 rfl ?_
    refine J_getI dX9_tellsOf_29 wX9_299 rfl jo_mPl_86 ?_
    refine J_iconst dX9_tellsOf_32 (v := (4 : Int32)) rfl ?_
    refine J_icmp_ne dX9_tellsOf_33 (tgt := 56) (by decide) (fun c11 => ?_) (fun c11 => ?_)
    · refine J_aload_n dX9_tellsOf_36 rfl ?_
      refine J_bipush dX9_tellsOf_37 (v := (50 : Int32)) rfl ?_
      refine J_callV_v (M' := m9_runs) (as := [_]) dX9_tellsOf_39 lX9_302 sm9_runs sm9_runs_w jo_mPl_86 hci_X9 (by decide) rfl (Nat.le_of_ble_eq_true rfl) (c9_runs _ _) (fun r13 => ?_)
      refine J_aload_n dX9_tellsOf_42 rfl ?_
      refine J_iload_n dX9_tellsOf_43 rfl ?_
      refine J_callV_w (M' := m9_plainTells) (as := [_]) dX9_tellsOf_44 lX9_320 sm9_plainTells sm9_plainTells_w jo_mPl_86 hci_X9 (by decide) rfl (Nat.le_of_ble_eq_true rfl) (c9_plainTells _ _) (fun r14 => ?_)
      refine J_istore_n dX9_tellsOf_47  (by decide) rfl ?_
      refine J_iload_n dX9_tellsOf_48 rfl ?_
      refine J_aload_n dX9_tellsOf_49 rfl ?_
      refine J_iconst dX9_tellsOf_50 (v := (2 : Int32)) rfl ?_
      refine J_callV_w (M' := m9_looksOf) (as := [_]) dX9_tellsOf_51 lX9_308 sm9_looksOf sm9_looksOf_w jo_mPl_86 hci_X9 (by decide) rfl (Nat.le_of_ble_eq_true rfl) (c9_looksOf _ _) (fun r15 => ?_)
      refine J_isub dX9_tellsOf_54 ?_
      exact J_iret dX9_tellsOf_55 rfl rfl
    · refine J_aload_n dX9_tellsOf_56 rfl ?_
      refine J_iload_n dX9_tellsOf_57 rfl ?_
      refine J_callV_w (M' := m9_plainTells) (as := [_]) dX9_tellsOf_58 lX9_320 sm9_plainTells sm9_plainTells_w jo_mPl_86 hci_X9 (by decide) rfl (Nat.le_of_ble_eq_true rfl) (c9_plainTells _ _) (fun r12 => ?_)
      exact J_iret dX9_tellsOf_61 rfl rfl
set_option maxRecDepth 20000 in
theorem c9_voice_b17 (μ : JMu) : JF m9_voice 5 mPl (fun b : Int32 × JMu => (some (.int b.1), b.2)) 17 [some (.ref 86), none, none, none] [] μ (f9_voice_b17  μ) := by
  unfold f9_voice_b17
  refine J_aload_n dX9_voice_17 rfl ?_
  refine J_ldc dX9_voice_18 kX9_80 ?_
  refine J_callV_w (M' := m9_finding) (as := [_]) dX9_voice_20 lX9_81 sm9_finding sm9_finding_w jo_mPl_86 hci_X9 (by decide) rfl (Nat.le_of_ble_eq_true rfl) (c9_finding _ _) (fun r15 => ?_)
  exact J_iret dX9_voice_23 rfl rfl
set_option maxRecDepth 20000 in
theorem c9_voice (a1 : Int32) (a2 : Int32) (a3 : Int32) (μ : JMu) : ∀ b, f9_voice a1 a2 a3 μ = some b → JC m9_voice 5 mPl [.ref 86, .int (a1), .int (a2), .int (a3)] μ (some (.int b.1), b.2) := by
  refine JC_of (emb := (fun b : Int32 × JMu => (some (.int b.1), b.2))) (L0 := [some (.ref 86), some (.int (a1)), some (.int (a2)), some (.int (a3))]) sm9_voice (Nat.le_of_ble_eq_true rfl) rfl ?_
  unfold f9_voice
  refine J_aload_n dX9_voice_0 rfl ?_
  refine J_iload_n dX9_voice_1 rfl ?_
  refine J_callV_i (M' := m9_isTenant) (as := [_]) dX9_voice_2 lX9_227 sm9_isTenant sm9_isTenant_w jo_mPl_86 hci_X9 (by decide) rfl (Nat.le_of_ble_eq_true rfl) (c9_isTenant _ _) (fun r16 => ?_)
  refine J_if_eq dX9_voice_5 (tgt := 17) (by decide) (fun c17 => ?_) (fun c17 => ?_)
  · refine JF_drop [1, 2, 3] ?_
    exact c9_voice_b17  _
  · refine J_iload_n dX9_voice_8 rfl ?_
    refine J_iconst dX9_voice_9 (v := (0 : Int32)) rfl ?_
    refine J_iconst dX9_voice_10 (v := (3 : Int32)) rfl ?_
    refine J_callS_i (M' := m9_within) (as := [_, _, _]) dX9_voice_11 lX9_76 sm9_within sm9_within_w (by decide) rfl (Nat.le_of_ble_eq_true rfl) (c9_within _ _ _ _) (fun r18 => ?_)
    refine J_if_ne dX9_voice_14 (tgt := 24) (by decide) (fun c19 => ?_) (fun c19 => ?_)
    · refine JF_drop [1, 2, 3] ?_
      exact c9_voice_b17  _
    · refine J_aload_n dX9_voice_24 rfl ?_
      refine J_iconst dX9_voice_25 (v := (0 : Int32)) rfl ?_
      refine J_putI dX9_voice_26 wX9_296 rfl jo_mPl_86 ?_
      refine J_aload_n dX9_voice_29 rfl ?_
      refine J_aload_n dX9_voice_30 rfl ?_
      refine J_iload_n dX9_voice_31 rfl ?_
      refine J_iconst dX9_voice_32 (v := (0 : Int32)) rfl ?_
      refine J_callV_i (M' := m9_tenantIs) (as := [_, _]) dX9_voice_33 lX9_179 sm9_tenantIs sm9_tenantIs_w jo_mPl_86 hci_X9 (by decide) rfl (Nat.le_of_ble_eq_true rfl) (c9_tenantIs _ _ _) (fun r20 => ?_)
      refine J_putI dX9_voice_36 wX9_299 rfl jo_mPl_86 ?_
      refine J_aload_n dX9_voice_39 rfl ?_
      refine J_iload_n dX9_voice_40 rfl ?_
      refine J_putI dX9_voice_41 wX9_305 rfl jo_mPl_86 ?_
      refine J_aload_n dX9_voice_44 rfl ?_
      refine J_aload_n dX9_voice_45 rfl ?_
      refine J_iload_n dX9_voice_46 rfl ?_
      refine J_iconst dX9_voice_47 (v := (1 : Int32)) rfl ?_
      refine J_callV_i (M' := m9_tenantIs) (as := [_, _]) dX9_voice_48 lX9_179 sm9_tenantIs sm9_tenantIs_w jo_mPl_86 hci_X9 (by decide) rfl (Nat.le_of_ble_eq_true rfl) (c9_tenantIs _ _ _) (fun r21 => ?_)
      refine J_putI dX9_voice_51 wX9_314 rfl jo_mPl_86 ?_
      refine J_iload_n dX9_voice_54 rfl ?_
      refine J_if_ne dX9_voice_55 (tgt := 66) (by decide) (fun c22 => ?_) (fun c22 => ?_)
      · refine J_aload_n dX9_voice_58 rfl ?_
        refine J_iload_n dX9_voice_59 rfl ?_
        refine J_callV_w (M' := m9_looksOf) (as := [_]) dX9_voice_60 lX9_308 sm9_looksOf sm9_looksOf_w jo_mPl_86 hci_X9 (by decide) rfl (Nat.le_of_ble_eq_true rfl) (c9_looksOf _ _) (fun r28 => ?_)
        refine J_goto dX9_voice_63 (tgt := 97) (by decide) ?_
        exact J_iret dX9_voice_97 rfl rfl
      · refine J_iload_n dX9_voice_66 rfl ?_
        refine J_iconst dX9_voice_67 (v := (1 : Int32)) rfl ?_
        refine J_icmp_ne dX9_voice_68 (tgt := 79) (by decide) (fun c23 => ?_) (fun c23 => ?_)
        · refine J_aload_n dX9_voice_71 rfl ?_
          refine J_iload_n dX9_voice_72 rfl ?_
          refine J_callV_w (M' := m9_paysOf) (as := [_]) dX9_voice_73 lX9_317 sm9_paysOf sm9_paysOf_w jo_mPl_86 hci_X9 (by decide) rfl (Nat.le_of_ble_eq_true rfl) (c9_paysOf _ _) (fun r27 => ?_)
          refine J_goto dX9_voice_76 (tgt := 97) (by decide) ?_
          exact J_iret dX9_voice_97 rfl rfl
        · refine J_iload_n dX9_voice_79 rfl ?_
          refine J_iconst dX9_voice_80 (v := (2 : Int32)) rfl ?_
          refine J_icmp_ne dX9_voice_81 (tgt := 92) (by decide) (fun c24 => ?_) (fun c24 => ?_)
          · refine J_aload_n dX9_voice_84 rfl ?_
            refine J_iload_n dX9_voice_85 rfl ?_
            refine J_callV_w (M' := m9_holdsOf) (as := [_]) dX9_voice_86 lX9_311 sm9_holdsOf sm9_holdsOf_w jo_mPl_86 hci_X9 (by decide) rfl (Nat.le_of_ble_eq_true rfl) (c9_holdsOf _ _) (fun r26 => ?_)
            refine J_goto dX9_voice_89 (tgt := 97) (by decide) ?_
            exact J_iret dX9_voice_97 rfl rfl
          · refine J_aload_n dX9_voice_92 rfl ?_
            refine J_iload_n dX9_voice_93 rfl ?_
            refine J_callV_w (M' := m9_tellsOf) (as := [_]) dX9_voice_94 lX9_323 sm9_tellsOf sm9_tellsOf_w jo_mPl_86 hci_X9 (by decide) rfl (Nat.le_of_ble_eq_true rfl) (c9_tellsOf _ _) (fun r25 => ?_)
            exact J_iret dX9_voice_97 rfl rfl
set_option maxRecDepth 20000 in
theorem c9_trace (a1 : Int32) (μ : JMu) : ∀ b, f9_trace a1 μ = some b → JC m9_trace 1 mPl [.ref 86, .int (a1)] μ (some (.int b.1), b.2) := by
  refine JC_of (emb := (fun b : Int32 × JMu => (some (.int b.1), b.2))) (L0 := [some (.ref 86), some (.int (a1))]) sm9_trace (Nat.le_of_ble_eq_true rfl) rfl ?_
  unfold f9_trace
  refine J_iload_n dX9_trace_0 rfl ?_
  refine J_iconst dX9_trace_1 (v := (0 : Int32)) rfl ?_
  refine J_aload_n dX9_trace_2 rfl ?_
  refine J_getI dX9_trace_3 wX9_296 rfl jo_mPl_86 ?_
  refine J_iconst dX9_trace_6 (v := (1 : Int32)) rfl ?_
  refine J_isub dX9_trace_7 ?_
  refine J_callS_i (M' := m9_within) (as := [_, _, _]) dX9_trace_8 lX9_76 sm9_within sm9_within_w (by decide) rfl (Nat.le_of_ble_eq_true rfl) (c9_within _ _ _ _) (fun r5 => ?_)
  refine J_if_eq dX9_trace_11 (tgt := 23) (by decide) (fun c6 => ?_) (fun c6 => ?_)
  · refine J_aload_n dX9_trace_23 rfl ?_
    refine J_ldcw dX9_trace_24 kX9_268 ?_
    refine J_callV_w (M' := m9_finding) (as := [_]) dX9_trace_27 lX9_81 sm9_finding sm9_finding_w jo_mPl_86 hci_X9 (by decide) rfl (Nat.le_of_ble_eq_true rfl) (c9_finding _ _) (fun r7 => ?_)
    exact J_iret dX9_trace_30 rfl rfl
  · refine J_aload_n dX9_trace_14 rfl ?_
    refine J_getR dX9_trace_15 wX9_47 rfl jo_mPl_86 jr_86_17 ?_
    refine J_iload_n dX9_trace_18 rfl ?_
    refine JF_chk (fun c8 => ?_)
    refine J_iald dX9_trace_19 ji_mPl_97 jl_97 (jin_spec c8) rfl ?_
    refine J_goto dX9_trace_20 (tgt := 30) (by decide) ?_
    exact J_iret dX9_trace_30 rfl rfl
set_option maxRecDepth 20000 in
theorem c9_sheet_b29 (μ : JMu) : JF m9_sheet 2 mPl (fun b : Int32 × JMu => (some (.int b.1), b.2)) 29 [some (.ref 86), none, none, none, none] [] μ (f9_sheet_b29  μ) := by
  unfold f9_sheet_b29
  refine J_aload_n dX9_sheet_29 rfl ?_
  refine J_ldc dX9_sheet_30 kX9_80 ?_
  refine J_callV_w (M' := m9_finding) (as := [_]) dX9_sheet_32 lX9_81 sm9_finding sm9_finding_w jo_mPl_86 hci_X9 (by decide) rfl (Nat.le_of_ble_eq_true rfl) (c9_finding _ _) (fun r19 => ?_)
  exact J_iret dX9_sheet_35 rfl rfl
set_option maxRecDepth 20000 in
theorem c9_sheet_b93 (n : Nat) : ∀ (v1 : Int32) (v4 : Int32) (μ : JMu), JF m9_sheet 2 mPl (fun b : Int32 × JMu => (some (.int b.1), b.2)) 93 [some (.ref 86), some (.int (v1)), none, none, some (.int (v4))] [] μ (f9_sheet_b93 n v1 v4 μ) := by
  induction n with
  | zero => intros; exact JF_none
  | succ n ih =>
    intro v1 v4 μ
    rw [f9_sheet_b93]
    refine J_iload dX9_sheet_93 rfl ?_
    refine J_bipush dX9_sheet_95 (v := (40 : Int32)) rfl ?_
    refine J_icmp_ge dX9_sheet_97 (tgt := 119) (by decide) (fun c20 => ?_) (fun c20 => ?_)
    · refine J_iconst dX9_sheet_119 (v := (1 : Int32)) rfl ?_
      exact J_iret dX9_sheet_120 rfl rfl
    · refine J_aload_n dX9_sheet_100 rfl ?_
      refine J_getR dX9_sheet_101 wX9_56 rfl jo_mPl_86 jr_86_24 ?_
      refine J_bipush dX9_sheet_104 (v := (40 : Int32)) rfl ?_
      refine J_iload_n dX9_sheet_106 rfl ?_
      refine J_imul dX9_sheet_107 ?_
      refine J_iload dX9_sheet_108 rfl ?_
      refine J_iadd dX9_sheet_110 ?_
      refine J_iconst dX9_sheet_111 (v := (0 : Int32)) rfl ?_
      refine JF_chk (fun c21 => ?_)
      refine J_iast dX9_sheet_112 ji_mPl_100 jl_100 (jin_spec c21) rfl ?_
      refine J_iinc dX9_sheet_113 rfl (c0 := (1 : Int32)) rfl (by decide) rfl ?_
      refine J_goto dX9_sheet_116 (tgt := 93) (by decide) ?_
      exact ih _ _ _
set_option maxRecDepth 20000 in
theorem c9_sheet_b89 (v1 : Int32) (s0 : Int32) (s1 : Int32) (μ : JMu) : JF m9_sheet 2 mPl (fun b : Int32 × JMu => (some (.int b.1), b.2)) 89 [some (.ref 86), some (.int (v1)), none, none, none] [.int (s0), .int (s1), .ref 99] μ (f9_sheet_b89 v1 s0 s1 μ) := by
  unfold f9_sheet_b89
  refine JF_chk (fun c22 => ?_)
  refine J_iast dX9_sheet_89 ji_mPl_99 jl_99 (jin_spec c22) rfl ?_
  refine J_iconst dX9_sheet_90 (v := (0 : Int32)) rfl ?_
  refine J_istore dX9_sheet_91  (by decide) rfl ?_
  exact c9_sheet_b93 jN _ _ _
set_option maxRecDepth 20000 in
theorem c9_sheet_b68 (v1 : Int32) (v2 : Int32) (v3 : Int32) (μ : JMu) : JF m9_sheet 2 mPl (fun b : Int32 × JMu => (some (.int b.1), b.2)) 68 [some (.ref 86), some (.int (v1)), some (.int (v2)), some (.int (v3)), none] [] μ (f9_sheet_b68 v1 v2 v3 μ) := by
  unfold f9_sheet_b68
  refine J_aload_n dX9_sheet_68 rfl ?_
  refine J_getR dX9_sheet_69 wX9_50 rfl jo_mPl_86 jr_86_22 ?_
  refine J_iload_n dX9_sheet_72 rfl ?_
  refine J_iload_n dX9_sheet_73 rfl ?_
  refine JF_chk (fun c24 => ?_)
  refine J_iast dX9_sheet_74 ji_mPl_98 jl_98 (jin_spec c24) rfl ?_
  refine J_aload_n dX9_sheet_75 rfl ?_
  refine J_getR dX9_sheet_76 wX9_53 rfl jo_mPl_86 jr_86_23 ?_
  refine J_iload_n dX9_sheet_79 rfl ?_
  refine J_iload_n dX9_sheet_80 rfl ?_
  refine J_if_ne dX9_sheet_81 (tgt := 88) (by decide) (fun c23 => ?_) (fun c23 => ?_)
  · refine J_iconst dX9_sheet_84 (v := (0 : Int32)) rfl ?_
    refine J_goto dX9_sheet_85 (tgt := 89) (by decide) ?_
    refine JF_drop [2, 3] ?_
    exact c9_sheet_b89 _ _ _ _
  · refine J_iload_n dX9_sheet_88 rfl ?_
    refine JF_drop [2, 3] ?_
    exact c9_sheet_b89 _ _ _ _
set_option maxRecDepth 20000 in
theorem c9_sheet_b51 (v1 : Int32) (v2 : Int32) (v3 : Int32) (μ : JMu) : JF m9_sheet 2 mPl (fun b : Int32 × JMu => (some (.int b.1), b.2)) 51 [some (.ref 86), some (.int (v1)), some (.int (v2)), some (.int (v3)), none] [] μ (f9_sheet_b51 v1 v2 v3 μ) := by
  unfold f9_sheet_b51
  refine J_iload_n dX9_sheet_51 rfl ?_
  refine J_if_eq dX9_sheet_52 (tgt := 68) (by decide) (fun c25 => ?_) (fun c25 => ?_)
  · exact c9_sheet_b68 _ _ _ _
  · refine J_iload_n dX9_sheet_55 rfl ?_
    refine J_bipush dX9_sheet_56 (v := (40 : Int32)) rfl ?_
    refine J_icmp_le dX9_sheet_58 (tgt := 68) (by decide) (fun c26 => ?_) (fun c26 => ?_)
    · exact c9_sheet_b68 _ _ _ _
    · refine J_aload_n dX9_sheet_61 rfl ?_
      refine J_ldc dX9_sheet_62 kX9_80 ?_
      refine J_callV_w (M' := m9_finding) (as := [_]) dX9_sheet_64 lX9_81 sm9_finding sm9_finding_w jo_mPl_86 hci_X9 (by decide) rfl (Nat.le_of_ble_eq_true rfl) (c9_finding _ _) (fun r27 => ?_)
      exact J_iret dX9_sheet_67 rfl rfl
set_option maxRecDepth 20000 in
theorem c9_sheet_b36 (v1 : Int32) (v2 : Int32) (v3 : Int32) (μ : JMu) : JF m9_sheet 2 mPl (fun b : Int32 × JMu => (some (.int b.1), b.2)) 36 [some (.ref 86), some (.int (v1)), some (.int (v2)), some (.int (v3)), none] [] μ (f9_sheet_b36 v1 v2 v3 μ) := by
  unfold f9_sheet_b36
  refine J_iload_n dX9_sheet_36 rfl ?_
  refine J_if_eq dX9_sheet_37 (tgt := 51) (by decide) (fun c28 => ?_) (fun c28 => ?_)
  · exact c9_sheet_b51 _ _ _ _
  · refine J_iload_n dX9_sheet_40 rfl ?_
    refine J_if_ge dX9_sheet_41 (tgt := 51) (by decide) (fun c29 => ?_) (fun c29 => ?_)
    · exact c9_sheet_b51 _ _ _ _
    · refine J_aload_n dX9_sheet_44 rfl ?_
      refine J_ldc dX9_sheet_45 kX9_242 ?_
      refine J_callV_w (M' := m9_finding) (as := [_]) dX9_sheet_47 lX9_81 sm9_finding sm9_finding_w jo_mPl_86 hci_X9 (by decide) rfl (Nat.le_of_ble_eq_true rfl) (c9_finding _ _) (fun r30 => ?_)
      exact J_iret dX9_sheet_50 rfl rfl
set_option maxRecDepth 20000 in
theorem c9_sheet (a1 : Int32) (a2 : Int32) (a3 : Int32) (μ : JMu) : ∀ b, f9_sheet a1 a2 a3 μ = some b → JC m9_sheet 2 mPl [.ref 86, .int (a1), .int (a2), .int (a3)] μ (some (.int b.1), b.2) := by
  refine JC_of (emb := (fun b : Int32 × JMu => (some (.int b.1), b.2))) (L0 := [some (.ref 86), some (.int (a1)), some (.int (a2)), some (.int (a3)), none]) sm9_sheet (Nat.le_of_ble_eq_true rfl) rfl ?_
  unfold f9_sheet
  refine J_iload_n dX9_sheet_0 rfl ?_
  refine J_callS_i (M' := m9_isSheet) (as := [_]) dX9_sheet_1 lX9_287 sm9_isSheet sm9_isSheet_w (by decide) rfl (Nat.le_of_ble_eq_true rfl) (c9_isSheet _ _) (fun r31 => ?_)
  refine J_if_eq dX9_sheet_4 (tgt := 29) (by decide) (fun c32 => ?_) (fun c32 => ?_)
  · refine JF_drop [1, 2, 3] ?_
    exact c9_sheet_b29  _
  · refine J_iload_n dX9_sheet_7 rfl ?_
    refine J_if_eq dX9_sheet_8 (tgt := 36) (by decide) (fun c33 => ?_) (fun c33 => ?_)
    · exact c9_sheet_b36 _ _ _ _
    · refine J_iload_n dX9_sheet_11 rfl ?_
      refine J_bipush dX9_sheet_12 (v := (8 : Int32)) rfl ?_
      refine J_icmp_eq dX9_sheet_14 (tgt := 36) (by decide) (fun c34 => ?_) (fun c34 => ?_)
      · exact c9_sheet_b36 _ _ _ _
      · refine J_iload_n dX9_sheet_17 rfl ?_
        refine J_bipush dX9_sheet_18 (v := (16 : Int32)) rfl ?_
        refine J_icmp_eq dX9_sheet_20 (tgt := 36) (by decide) (fun c35 => ?_) (fun c35 => ?_)
        · exact c9_sheet_b36 _ _ _ _
        · refine J_iload_n dX9_sheet_23 rfl ?_
          refine J_bipush dX9_sheet_24 (v := (32 : Int32)) rfl ?_
          refine J_icmp_eq dX9_sheet_26 (tgt := 36) (by decide) (fun c36 => ?_) (fun c36 => ?_)
          · exact c9_sheet_b36 _ _ _ _
          · refine JF_drop [1, 2, 3] ?_
            exact c9_sheet_b29  _
set_option maxRecDepth 20000 in
theorem c9_put_b97 (s0 : Int32) (s1 : Int32) (μ : JMu) : JF m9_put 2 mPl (fun b : Int32 × JMu => (some (.int b.1), b.2)) 97 [none, none, none, none] [.int (s0), .int (s1), .ref 100] μ (f9_put_b97 s0 s1 μ) := by
  unfold f9_put_b97
  refine JF_chk (fun c16 => ?_)
  refine J_iast dX9_put_97 ji_mPl_100 jl_100 (jin_spec c16) rfl ?_
  refine J_iconst dX9_put_98 (v := (1 : Int32)) rfl ?_
  exact J_iret dX9_put_99 rfl rfl
set_option maxRecDepth 20000 in
theorem c9_put (a1 : Int32) (a2 : Int32) (a3 : Int32) (μ : JMu) : ∀ b, f9_put a1 a2 a3 μ = some b → JC m9_put 2 mPl [.ref 86, .int (a1), .int (a2), .int (a3)] μ (some (.int b.1), b.2) := by
  refine JC_of (emb := (fun b : Int32 × JMu => (some (.int b.1), b.2))) (L0 := [some (.ref 86), some (.int (a1)), some (.int (a2)), some (.int (a3))]) sm9_put (Nat.le_of_ble_eq_true rfl) rfl ?_
  unfold f9_put
  refine J_iload_n dX9_put_0 rfl ?_
  refine J_callS_i (M' := m9_isSheet) (as := [_]) dX9_put_1 lX9_287 sm9_isSheet sm9_isSheet_w (by decide) rfl (Nat.le_of_ble_eq_true rfl) (c9_isSheet _ _) (fun r17 => ?_)
  refine J_if_ne dX9_put_4 (tgt := 14) (by decide) (fun c18 => ?_) (fun c18 => ?_)
  · refine J_aload_n dX9_put_7 rfl ?_
    refine J_ldc dX9_put_8 kX9_80 ?_
    refine J_callV_w (M' := m9_finding) (as := [_]) dX9_put_10 lX9_81 sm9_finding sm9_finding_w jo_mPl_86 hci_X9 (by decide) rfl (Nat.le_of_ble_eq_true rfl) (c9_finding _ _) (fun r30 => ?_)
    exact J_iret dX9_put_13 rfl rfl
  · refine J_aload_n dX9_put_14 rfl ?_
    refine J_getR dX9_put_15 wX9_50 rfl jo_mPl_86 jr_86_22 ?_
    refine J_iload_n dX9_put_18 rfl ?_
    refine JF_chk (fun c29 => ?_)
    refine J_iald dX9_put_19 ji_mPl_98 jl_98 (jin_spec c29) rfl ?_
    refine J_if_ne dX9_put_20 (tgt := 31) (by decide) (fun c19 => ?_) (fun c19 => ?_)
    · refine J_aload_n dX9_put_23 rfl ?_
      refine J_ldcw dX9_put_24 kX9_268 ?_
      refine J_callV_w (M' := m9_finding) (as := [_]) dX9_put_27 lX9_81 sm9_finding sm9_finding_w jo_mPl_86 hci_X9 (by decide) rfl (Nat.le_of_ble_eq_true rfl) (c9_finding _ _) (fun r28 => ?_)
      exact J_iret dX9_put_30 rfl rfl
    · refine J_iload_n dX9_put_31 rfl ?_
      refine J_iconst dX9_put_32 (v := (0 : Int32)) rfl ?_
      refine J_aload_n dX9_put_33 rfl ?_
      refine J_getR dX9_put_34 wX9_53 rfl jo_mPl_86 jr_86_23 ?_
      refine J_iload_n dX9_put_37 rfl ?_
      refine JF_chk (fun c27 => ?_)
      refine J_iald dX9_put_38 ji_mPl_99 jl_99 (jin_spec c27) rfl ?_
      refine J_iconst dX9_put_39 (v := (1 : Int32)) rfl ?_
      refine J_isub dX9_put_40 ?_
      refine J_callS_i (M' := m9_within) (as := [_, _, _]) dX9_put_41 lX9_76 sm9_within sm9_within_w (by decide) rfl (Nat.le_of_ble_eq_true rfl) (c9_within _ _ _ _) (fun r20 => ?_)
      refine J_if_ne dX9_put_44 (tgt := 54) (by decide) (fun c21 => ?_) (fun c21 => ?_)
      · refine J_aload_n dX9_put_47 rfl ?_
        refine J_ldc dX9_put_48 kX9_80 ?_
        refine J_callV_w (M' := m9_finding) (as := [_]) dX9_put_50 lX9_81 sm9_finding sm9_finding_w jo_mPl_86 hci_X9 (by decide) rfl (Nat.le_of_ble_eq_true rfl) (c9_finding _ _) (fun r26 => ?_)
        exact J_iret dX9_put_53 rfl rfl
      · refine J_aload_n dX9_put_54 rfl ?_
        refine J_getR dX9_put_55 wX9_56 rfl jo_mPl_86 jr_86_24 ?_
        refine J_bipush dX9_put_58 (v := (40 : Int32)) rfl ?_
        refine J_iload_n dX9_put_60 rfl ?_
        refine J_imul dX9_put_61 ?_
        refine J_iload_n dX9_put_62 rfl ?_
        refine J_iadd dX9_put_63 ?_
        refine J_aload_n dX9_put_64 rfl ?_
        refine J_getR dX9_put_65 wX9_50 rfl jo_mPl_86 jr_86_22 ?_
        refine J_iload_n dX9_put_68 rfl ?_
        refine JF_chk (fun c25 => ?_)
        refine J_iald dX9_put_69 ji_mPl_98 jl_98 (jin_spec c25) rfl ?_
        refine J_bipush dX9_put_70 (v := (8 : Int32)) rfl ?_
        refine J_icmp_ne dX9_put_72 (tgt := 80) (by decide) (fun c22 => ?_) (fun c22 => ?_)
        · refine J_iload_n dX9_put_75 rfl ?_
          refine J_i2b dX9_put_76 ?_
          refine J_goto dX9_put_77 (tgt := 97) (by decide) ?_
          refine JF_drop [0, 1, 2, 3] ?_
          exact c9_put_b97 _ _ _
        · refine J_aload_n dX9_put_80 rfl ?_
          refine J_getR dX9_put_81 wX9_50 rfl jo_mPl_86 jr_86_22 ?_
          refine J_iload_n dX9_put_84 rfl ?_
          refine JF_chk (fun c24 => ?_)
          refine J_iald dX9_put_85 ji_mPl_98 jl_98 (jin_spec c24) rfl ?_
          refine J_bipush dX9_put_86 (v := (16 : Int32)) rfl ?_
          refine J_icmp_ne dX9_put_88 (tgt := 96) (by decide) (fun c23 => ?_) (fun c23 => ?_)
          · refine J_iload_n dX9_put_91 rfl ?_
            refine J_i2s dX9_put_92 ?_
            refine J_goto dX9_put_93 (tgt := 97) (by decide) ?_
            refine JF_drop [0, 1, 2, 3] ?_
            exact c9_put_b97 _ _ _
          · refine J_iload_n dX9_put_96 rfl ?_
            refine JF_drop [0, 1, 2, 3] ?_
            exact c9_put_b97 _ _ _
set_option maxRecDepth 20000 in
theorem c9_move_b14 (μ : JMu) : JF m9_move 2 mPl (fun b : Int32 × JMu => (some (.int b.1), b.2)) 14 [some (.ref 86), none, none, none, none, none, none] [] μ (f9_move_b14  μ) := by
  unfold f9_move_b14
  refine J_aload_n dX9_move_14 rfl ?_
  refine J_ldc dX9_move_15 kX9_80 ?_
  refine J_callV_w (M' := m9_finding) (as := [_]) dX9_move_17 lX9_81 sm9_finding sm9_finding_w jo_mPl_86 hci_X9 (by decide) rfl (Nat.le_of_ble_eq_true rfl) (c9_finding _ _) (fun r29 => ?_)
  exact J_iret dX9_move_20 rfl rfl
set_option maxRecDepth 20000 in
theorem c9_move_b39 (μ : JMu) : JF m9_move 2 mPl (fun b : Int32 × JMu => (some (.int b.1), b.2)) 39 [some (.ref 86), none, none, none, none, none, none] [] μ (f9_move_b39  μ) := by
  unfold f9_move_b39
  refine J_aload_n dX9_move_39 rfl ?_
  refine J_ldcw dX9_move_40 kX9_268 ?_
  refine J_callV_w (M' := m9_finding) (as := [_]) dX9_move_43 lX9_81 sm9_finding sm9_finding_w jo_mPl_86 hci_X9 (by decide) rfl (Nat.le_of_ble_eq_true rfl) (c9_finding _ _) (fun r30 => ?_)
  exact J_iret dX9_move_46 rfl rfl
set_option maxRecDepth 20000 in
theorem c9_move_b118 (μ : JMu) : JF m9_move 2 mPl (fun b : Int32 × JMu => (some (.int b.1), b.2)) 118 [some (.ref 86), none, none, none, none, none, none] [] μ (f9_move_b118  μ) := by
  unfold f9_move_b118
  refine J_aload_n dX9_move_118 rfl ?_
  refine J_ldc dX9_move_119 kX9_80 ?_
  refine J_callV_w (M' := m9_finding) (as := [_]) dX9_move_121 lX9_81 sm9_finding sm9_finding_w jo_mPl_86 hci_X9 (by decide) rfl (Nat.le_of_ble_eq_true rfl) (c9_finding _ _) (fun r31 => ?_)
  exact J_iret dX9_move_124 rfl rfl
set_option maxRecDepth 20000 in
theorem c9_move_b165 (n : Nat) : ∀ (v3 : Int32) (v4 : Int32) (v5 : Int32) (v6 : Int32) (μ : JMu), JF m9_move 2 mPl (fun b : Int32 × JMu => (some (.int b.1), b.2)) 165 [some (.ref 86), none, none, some (.int (v3)), some (.int (v4)), some (.int (v5)), some (.int (v6))] [] μ (f9_move_b165 n v3 v4 v5 v6 μ) := by
  induction n with
  | zero => intros; exact JF_none
  | succ n ih =>
    intro v3 v4 v5 v6 μ
    rw [f9_move_b165]
    refine J_iload dX9_move_165 rfl ?_
    refine J_iload dX9_move_167 rfl ?_
    refine J_icmp_ge dX9_move_169 (tgt := 200) (by decide) (fun c32 => ?_) (fun c32 => ?_)
    · refine J_iload dX9_move_200 rfl ?_
      exact J_iret dX9_move_202 rfl rfl
    · refine J_aload_n dX9_move_172 rfl ?_
      refine J_getR dX9_move_173 wX9_56 rfl jo_mPl_86 jr_86_24 ?_
      refine J_bipush dX9_move_176 (v := (40 : Int32)) rfl ?_
      refine J_iload_n dX9_move_178 rfl ?_
      refine J_imul dX9_move_179 ?_
      refine J_iload dX9_move_180 rfl ?_
      refine J_iadd dX9_move_182 ?_
      refine J_iload dX9_move_183 rfl ?_
      refine J_iadd dX9_move_185 ?_
      refine J_aload_n dX9_move_186 rfl ?_
      refine J_getR dX9_move_187 wX9_59 rfl jo_mPl_86 jr_86_25 ?_
      refine J_iload dX9_move_190 rfl ?_
      refine JF_chk (fun c34 => ?_)
      refine J_iald dX9_move_192 ji_mPl_101 jl_101 (jin_spec c34) rfl ?_
      refine JF_chk (fun c33 => ?_)
      refine J_iast dX9_move_193 ji_mPl_100 jl_100 (jin_spec c33) rfl ?_
      refine J_iinc dX9_move_194 rfl (c0 := (1 : Int32)) rfl (by decide) rfl ?_
      refine J_goto dX9_move_197 (tgt := 165) (by decide) ?_
      exact ih _ _ _ _ _
set_option maxRecDepth 20000 in
theorem c9_move_b128 (n : Nat) : ∀ (v1 : Int32) (v2 : Int32) (v3 : Int32) (v4 : Int32) (v5 : Int32) (v6 : Int32) (μ : JMu), JF m9_move 2 mPl (fun b : Int32 × JMu => (some (.int b.1), b.2)) 128 [some (.ref 86), some (.int (v1)), some (.int (v2)), some (.int (v3)), some (.int (v4)), some (.int (v5)), some (.int (v6))] [] μ (f9_move_b128 n v1 v2 v3 v4 v5 v6 μ) := by
  induction n with
  | zero => intros; exact JF_none
  | succ n ih =>
    intro v1 v2 v3 v4 v5 v6 μ
    rw [f9_move_b128]
    refine J_iload dX9_move_128 rfl ?_
    refine J_iload dX9_move_130 rfl ?_
    refine J_icmp_ge dX9_move_132 (tgt := 162) (by decide) (fun c35 => ?_) (fun c35 => ?_)
    · refine J_iconst dX9_move_162 (v := (0 : Int32)) rfl ?_
      refine J_istore dX9_move_163  (by decide) rfl ?_
      refine JF_drop [1, 2] ?_
      exact c9_move_b165 jN _ _ _ _ _
    · refine J_aload_n dX9_move_135 rfl ?_
      refine J_getR dX9_move_136 wX9_59 rfl jo_mPl_86 jr_86_25 ?_
      refine J_iload dX9_move_139 rfl ?_
      refine J_aload_n dX9_move_141 rfl ?_
      refine J_getR dX9_move_142 wX9_56 rfl jo_mPl_86 jr_86_24 ?_
      refine J_bipush dX9_move_145 (v := (40 : Int32)) rfl ?_
      refine J_iload_n dX9_move_147 rfl ?_
      refine J_imul dX9_move_148 ?_
      refine J_iload_n dX9_move_149 rfl ?_
      refine J_iadd dX9_move_150 ?_
      refine J_iload dX9_move_151 rfl ?_
      refine J_iadd dX9_move_153 ?_
      refine JF_chk (fun c37 => ?_)
      refine J_iald dX9_move_154 ji_mPl_100 jl_100 (jin_spec c37) rfl ?_
      refine JF_chk (fun c36 => ?_)
      refine J_iast dX9_move_155 ji_mPl_101 jl_101 (jin_spec c36) rfl ?_
      refine J_iinc dX9_move_156 rfl (c0 := (1 : Int32)) rfl (by decide) rfl ?_
      refine J_goto dX9_move_159 (tgt := 128) (by decide) ?_
      exact ih _ _ _ _ _ _ _
set_option maxRecDepth 20000 in
theorem c9_move (a1 : Int32) (a2 : Int32) (a3 : Int32) (a4 : Int32) (a5 : Int32) (μ : JMu) : ∀ b, f9_move a1 a2 a3 a4 a5 μ = some b → JC m9_move 2 mPl [.ref 86, .int (a1), .int (a2), .int (a3), .int (a4), .int (a5)] μ (some (.int b.1), b.2) := by
  refine JC_of (emb := (fun b : Int32 × JMu => (some (.int b.1), b.2))) (L0 := [some (.ref 86), some (.int (a1)), some (.int (a2)), some (.int (a3)), some (.int (a4)), some (.int (a5)), none]) sm9_move (Nat.le_of_ble_eq_true rfl) rfl ?_
  unfold f9_move
  refine J_iload_n dX9_move_0 rfl ?_
  refine J_callS_i (M' := m9_isSheet) (as := [_]) dX9_move_1 lX9_287 sm9_isSheet sm9_isSheet_w (by decide) rfl (Nat.le_of_ble_eq_true rfl) (c9_isSheet _ _) (fun r38 => ?_)
  refine J_if_eq dX9_move_4 (tgt := 14) (by decide) (fun c39 => ?_) (fun c39 => ?_)
  · refine JF_drop [1, 2, 3, 4, 5] ?_
    exact c9_move_b14  _
  · refine J_iload_n dX9_move_7 rfl ?_
    refine J_callS_i (M' := m9_isSheet) (as := [_]) dX9_move_8 lX9_287 sm9_isSheet sm9_isSheet_w (by decide) rfl (Nat.le_of_ble_eq_true rfl) (c9_isSheet _ _) (fun r40 => ?_)
    refine J_if_ne dX9_move_11 (tgt := 21) (by decide) (fun c41 => ?_) (fun c41 => ?_)
    · refine JF_drop [1, 2, 3, 4, 5] ?_
      exact c9_move_b14  _
    · refine J_aload_n dX9_move_21 rfl ?_
      refine J_getR dX9_move_22 wX9_50 rfl jo_mPl_86 jr_86_22 ?_
      refine J_iload_n dX9_move_25 rfl ?_
      refine JF_chk (fun c56 => ?_)
      refine J_iald dX9_move_26 ji_mPl_98 jl_98 (jin_spec c56) rfl ?_
      refine J_if_eq dX9_move_27 (tgt := 39) (by decide) (fun c42 => ?_) (fun c42 => ?_)
      · refine JF_drop [1, 2, 3, 4, 5] ?_
        exact c9_move_b39  _
      · refine J_aload_n dX9_move_30 rfl ?_
        refine J_getR dX9_move_31 wX9_50 rfl jo_mPl_86 jr_86_22 ?_
        refine J_iload_n dX9_move_34 rfl ?_
        refine JF_chk (fun c55 => ?_)
        refine J_iald dX9_move_35 ji_mPl_98 jl_98 (jin_spec c55) rfl ?_
        refine J_if_ne dX9_move_36 (tgt := 47) (by decide) (fun c43 => ?_) (fun c43 => ?_)
        · refine JF_drop [1, 2, 3, 4, 5] ?_
          exact c9_move_b39  _
        · refine J_aload_n dX9_move_47 rfl ?_
          refine J_getR dX9_move_48 wX9_50 rfl jo_mPl_86 jr_86_22 ?_
          refine J_iload_n dX9_move_51 rfl ?_
          refine JF_chk (fun c54 => ?_)
          refine J_iald dX9_move_52 ji_mPl_98 jl_98 (jin_spec c54) rfl ?_
          refine J_aload_n dX9_move_53 rfl ?_
          refine J_getR dX9_move_54 wX9_50 rfl jo_mPl_86 jr_86_22 ?_
          refine J_iload_n dX9_move_57 rfl ?_
          refine JF_chk (fun c53 => ?_)
          refine J_iald dX9_move_58 ji_mPl_98 jl_98 (jin_spec c53) rfl ?_
          refine J_icmp_eq dX9_move_59 (tgt := 69) (by decide) (fun c44 => ?_) (fun c44 => ?_)
          · refine J_iload dX9_move_69 rfl ?_
            refine J_if_lt dX9_move_71 (tgt := 118) (by decide) (fun c45 => ?_) (fun c45 => ?_)
            · refine JF_drop [1, 2, 3, 4, 5] ?_
              exact c9_move_b118  _
            · refine J_iload_n dX9_move_74 rfl ?_
              refine J_if_lt dX9_move_75 (tgt := 118) (by decide) (fun c46 => ?_) (fun c46 => ?_)
              · refine JF_drop [1, 2, 3, 4, 5] ?_
                exact c9_move_b118  _
              · refine J_iload dX9_move_78 rfl ?_
                refine J_if_lt dX9_move_80 (tgt := 118) (by decide) (fun c47 => ?_) (fun c47 => ?_)
                · refine JF_drop [1, 2, 3, 4, 5] ?_
                  exact c9_move_b118  _
                · refine J_iload_n dX9_move_83 rfl ?_
                  refine J_i2l dX9_move_84 ?_
                  refine J_iload dX9_move_85 rfl ?_
                  refine J_i2l dX9_move_87 ?_
                  refine J_ladd dX9_move_88 ?_
                  refine J_aload_n dX9_move_89 rfl ?_
                  refine J_getR dX9_move_90 wX9_53 rfl jo_mPl_86 jr_86_23 ?_
                  refine J_iload_n dX9_move_93 rfl ?_
                  refine JF_chk (fun c51 => ?_)
                  refine J_iald dX9_move_94 ji_mPl_99 jl_99 (jin_spec c51) rfl ?_
                  refine J_i2l dX9_move_95 ?_
                  refine J_lcmp dX9_move_96 ?_
                  refine J_if_gt dX9_move_97 (tgt := 118) (by decide) (fun c48 => ?_) (fun c48 => ?_)
                  · refine JF_drop [1, 2, 3, 4, 5] ?_
                    exact c9_move_b118  _
                  · refine J_iload dX9_move_100 rfl ?_
                    refine J_i2l dX9_move_102 ?_
                    refine J_iload dX9_move_103 rfl ?_
                    refine J_i2l dX9_move_105 ?_
                    refine J_ladd dX9_move_106 ?_
                    refine J_aload_n dX9_move_107 rfl ?_
                    refine J_getR dX9_move_108 wX9_53 rfl jo_mPl_86 jr_86_23 ?_
                    refine J_iload_n dX9_move_111 rfl ?_
                    refine JF_chk (fun c50 => ?_)
                    refine J_iald dX9_move_112 ji_mPl_99 jl_99 (jin_spec c50) rfl ?_
                    refine J_i2l dX9_move_113 ?_
                    refine J_lcmp dX9_move_114 ?_
                    refine J_if_le dX9_move_115 (tgt := 125) (by decide) (fun c49 => ?_) (fun c49 => ?_)
                    · refine J_iconst dX9_move_125 (v := (0 : Int32)) rfl ?_
                      refine J_istore dX9_move_126  (by decide) rfl ?_
                      exact c9_move_b128 jN _ _ _ _ _ _ _
                    · refine JF_drop [1, 2, 3, 4, 5] ?_
                      exact c9_move_b118  _
          · refine J_aload_n dX9_move_62 rfl ?_
            refine J_ldc dX9_move_63 kX9_234 ?_
            refine J_callV_w (M' := m9_finding) (as := [_]) dX9_move_65 lX9_81 sm9_finding sm9_finding_w jo_mPl_86 hci_X9 (by decide) rfl (Nat.le_of_ble_eq_true rfl) (c9_finding _ _) (fun r52 => ?_)
            exact J_iret dX9_move_68 rfl rfl
set_option maxRecDepth 20000 in
theorem c9_leases_b33 (n : Nat) : ∀ (v1 : Int32) (v2 : Int32) (μ : JMu), JF m9_leases 3 mPl (fun b : Int32 × JMu => (some (.int b.1), b.2)) 33 [some (.ref 86), some (.int (v1)), some (.int (v2))] [] μ (f9_leases_b33 n v1 v2 μ) := by
  induction n with
  | zero => intros; exact JF_none
  | succ n ih =>
    intro v1 v2 μ
    rw [f9_leases_b33]
    refine J_iload_n dX9_leases_33 rfl ?_
    refine J_aload_n dX9_leases_34 rfl ?_
    refine J_getR dX9_leases_35 wX9_53 rfl jo_mPl_86 jr_86_23 ?_
    refine J_iload_n dX9_leases_38 rfl ?_
    refine JF_chk (fun c30 => ?_)
    refine J_iald dX9_leases_39 ji_mPl_99 jl_99 (jin_spec c30) rfl ?_
    refine J_icmp_ge dX9_leases_40 (tgt := 103) (by decide) (fun c19 => ?_) (fun c19 => ?_)
    · refine J_iload_n dX9_leases_103 rfl ?_
      exact J_iret dX9_leases_104 rfl rfl
    · refine J_aload_n dX9_leases_43 rfl ?_
      refine J_iload_n dX9_leases_44 rfl ?_
      refine J_callV_i (M' := m9_isTenant) (as := [_]) dX9_leases_45 lX9_227 sm9_isTenant sm9_isTenant_w jo_mPl_86 hci_X9 (by decide) rfl (Nat.le_of_ble_eq_true rfl) (c9_isTenant _ _) (fun r20 => ?_)
      refine J_if_eq dX9_leases_48 (tgt := 103) (by decide) (fun c21 => ?_) (fun c21 => ?_)
      · refine J_iload_n dX9_leases_103 rfl ?_
        exact J_iret dX9_leases_104 rfl rfl
      · refine J_aload_n dX9_leases_51 rfl ?_
        refine J_iload_n dX9_leases_52 rfl ?_
        refine J_callV_i (M' := m9_isOut) (as := [_]) dX9_leases_53 lX9_239 sm9_isOut sm9_isOut_w jo_mPl_86 hci_X9 (by decide) rfl (Nat.le_of_ble_eq_true rfl) (c9_isOut _ _) (fun r22 => ?_)
        refine J_if_ne dX9_leases_56 (tgt := 103) (by decide) (fun c23 => ?_) (fun c23 => ?_)
        · refine J_aload_n dX9_leases_59 rfl ?_
          refine J_getR dX9_leases_60 wX9_56 rfl jo_mPl_86 jr_86_24 ?_
          refine J_bipush dX9_leases_63 (v := (40 : Int32)) rfl ?_
          refine J_iload_n dX9_leases_65 rfl ?_
          refine J_imul dX9_leases_66 ?_
          refine J_iload_n dX9_leases_67 rfl ?_
          refine J_iadd dX9_leases_68 ?_
          refine JF_chk (fun c29 => ?_)
          refine J_iald dX9_leases_69 ji_mPl_100 jl_100 (jin_spec c29) rfl ?_
          refine J_callS_i (M' := m9_isSet) (as := [_]) dX9_leases_70 lX9_236 sm9_isSet sm9_isSet_w (by decide) rfl (Nat.le_of_ble_eq_true rfl) (c9_isSet _ _) (fun r24 => ?_)
          refine J_if_eq dX9_leases_73 (tgt := 103) (by decide) (fun c25 => ?_) (fun c25 => ?_)
          · refine J_iload_n dX9_leases_103 rfl ?_
            exact J_iret dX9_leases_104 rfl rfl
          · refine J_aload_n dX9_leases_76 rfl ?_
            refine J_getR dX9_leases_77 wX9_9 rfl jo_mPl_86 jr_86_0 ?_
            refine J_iload_n dX9_leases_80 rfl ?_
            refine J_iconst dX9_leases_81 (v := (2 : Int32)) rfl ?_
            refine J_callS_i (M' := m9_at) (as := [_, _]) dX9_leases_82 lX9_204 sm9_at sm9_at_w (by decide) rfl (Nat.le_of_ble_eq_true rfl) (c9_at _ _ _) (fun r26 => ?_)
            refine J_aload_n dX9_leases_85 rfl ?_
            refine J_getR dX9_leases_86 wX9_56 rfl jo_mPl_86 jr_86_24 ?_
            refine J_bipush dX9_leases_89 (v := (40 : Int32)) rfl ?_
            refine J_iload_n dX9_leases_91 rfl ?_
            refine J_imul dX9_leases_92 ?_
            refine J_iload_n dX9_leases_93 rfl ?_
            refine J_iadd dX9_leases_94 ?_
            refine JF_chk (fun c28 => ?_)
            refine J_iald dX9_leases_95 ji_mPl_100 jl_100 (jin_spec c28) rfl ?_
            refine JF_chk (fun c27 => ?_)
            refine J_iast dX9_leases_96 ji_mPl_87 jl_87 (jin_spec c27) rfl ?_
            refine J_iinc dX9_leases_97 rfl (c0 := (1 : Int32)) rfl (by decide) rfl ?_
            refine J_goto dX9_leases_100 (tgt := 33) (by decide) ?_
            exact ih _ _ _
        · refine J_iload_n dX9_leases_103 rfl ?_
          exact J_iret dX9_leases_104 rfl rfl
set_option maxRecDepth 20000 in
theorem c9_leases (a1 : Int32) (μ : JMu) : ∀ b, f9_leases a1 μ = some b → JC m9_leases 3 mPl [.ref 86, .int (a1)] μ (some (.int b.1), b.2) := by
  refine JC_of (emb := (fun b : Int32 × JMu => (some (.int b.1), b.2))) (L0 := [some (.ref 86), some (.int (a1)), none]) sm9_leases (Nat.le_of_ble_eq_true rfl) rfl ?_
  unfold f9_leases
  refine J_iload_n dX9_leases_0 rfl ?_
  refine J_callS_i (M' := m9_isSheet) (as := [_]) dX9_leases_1 lX9_287 sm9_isSheet sm9_isSheet_w (by decide) rfl (Nat.le_of_ble_eq_true rfl) (c9_isSheet _ _) (fun r31 => ?_)
  refine J_if_ne dX9_leases_4 (tgt := 14) (by decide) (fun c32 => ?_) (fun c32 => ?_)
  · refine J_aload_n dX9_leases_7 rfl ?_
    refine J_ldc dX9_leases_8 kX9_80 ?_
    refine J_callV_w (M' := m9_finding) (as := [_]) dX9_leases_10 lX9_81 sm9_finding sm9_finding_w jo_mPl_86 hci_X9 (by decide) rfl (Nat.le_of_ble_eq_true rfl) (c9_finding _ _) (fun r36 => ?_)
    exact J_iret dX9_leases_13 rfl rfl
  · refine J_aload_n dX9_leases_14 rfl ?_
    refine J_getR dX9_leases_15 wX9_50 rfl jo_mPl_86 jr_86_22 ?_
    refine J_iload_n dX9_leases_18 rfl ?_
    refine JF_chk (fun c35 => ?_)
    refine J_iald dX9_leases_19 ji_mPl_98 jl_98 (jin_spec c35) rfl ?_
    refine J_if_ne dX9_leases_20 (tgt := 31) (by decide) (fun c33 => ?_) (fun c33 => ?_)
    · refine J_aload_n dX9_leases_23 rfl ?_
      refine J_ldcw dX9_leases_24 kX9_268 ?_
      refine J_callV_w (M' := m9_finding) (as := [_]) dX9_leases_27 lX9_81 sm9_finding sm9_finding_w jo_mPl_86 hci_X9 (by decide) rfl (Nat.le_of_ble_eq_true rfl) (c9_finding _ _) (fun r34 => ?_)
      exact J_iret dX9_leases_30 rfl rfl
    · refine J_iconst dX9_leases_31 (v := (0 : Int32)) rfl ?_
      refine J_istore_n dX9_leases_32  (by decide) rfl ?_
      exact c9_leases_b33 jN _ _ _
set_option maxRecDepth 20000 in
theorem c9_judge_b77 (v1 : Int32) (v2 : Int32) (μ : JMu) : JF m9_judge 2 mPl (fun b : Int32 × JMu => (some (.int b.1), b.2)) 77 [some (.ref 86), some (.int (v1)), some (.int (v2))] [] μ (f9_judge_b77 v1 v2 μ) := by
  unfold f9_judge_b77
  refine J_iload_n dX9_judge_77 rfl ?_
  refine J_aload_n dX9_judge_78 rfl ?_
  refine J_getR dX9_judge_79 wX9_53 rfl jo_mPl_86 jr_86_23 ?_
  refine J_iload_n dX9_judge_82 rfl ?_
  refine JF_chk (fun c21 => ?_)
  refine J_iald dX9_judge_83 ji_mPl_99 jl_99 (jin_spec c21) rfl ?_
  refine J_icmp_ne dX9_judge_84 (tgt := 101) (by decide) (fun c18 => ?_) (fun c18 => ?_)
  · refine J_iload_n dX9_judge_87 rfl ?_
    refine J_aload_n dX9_judge_88 rfl ?_
    refine J_getR dX9_judge_89 wX9_9 rfl jo_mPl_86 jr_86_0 ?_
    refine J_iconst dX9_judge_92 (v := (1 : Int32)) rfl ?_
    refine J_iald dX9_judge_93 ji_mPl_87 jl_87 (jin_spec (by decide)) (j := 1) rfl ?_
    refine J_icmp_ne dX9_judge_94 (tgt := 101) (by decide) (fun c19 => ?_) (fun c19 => ?_)
    · refine J_iconst dX9_judge_97 (v := (-1 : Int32)) rfl ?_
      refine J_goto dX9_judge_98 (tgt := 102) (by decide) ?_
      exact J_iret dX9_judge_102 rfl rfl
    · refine J_iload_n dX9_judge_101 rfl ?_
      exact J_iret dX9_judge_102 rfl rfl
  · refine J_iload_n dX9_judge_101 rfl ?_
    exact J_iret dX9_judge_102 rfl rfl
set_option maxRecDepth 20000 in
theorem c9_judge_b33 (n : Nat) : ∀ (v1 : Int32) (v2 : Int32) (μ : JMu), JF m9_judge 2 mPl (fun b : Int32 × JMu => (some (.int b.1), b.2)) 33 [some (.ref 86), some (.int (v1)), some (.int (v2))] [] μ (f9_judge_b33 n v1 v2 μ) := by
  induction n with
  | zero => intros; exact JF_none
  | succ n ih =>
    intro v1 v2 μ
    rw [f9_judge_b33]
    refine J_iload_n dX9_judge_33 rfl ?_
    refine J_aload_n dX9_judge_34 rfl ?_
    refine J_getR dX9_judge_35 wX9_53 rfl jo_mPl_86 jr_86_23 ?_
    refine J_iload_n dX9_judge_38 rfl ?_
    refine JF_chk (fun c28 => ?_)
    refine J_iald dX9_judge_39 ji_mPl_99 jl_99 (jin_spec c28) rfl ?_
    refine J_icmp_ge dX9_judge_40 (tgt := 77) (by decide) (fun c22 => ?_) (fun c22 => ?_)
    · exact c9_judge_b77 _ _ _
    · refine J_aload_n dX9_judge_43 rfl ?_
      refine J_iload_n dX9_judge_44 rfl ?_
      refine J_callV_i (M' := m9_isTenant) (as := [_]) dX9_judge_45 lX9_227 sm9_isTenant sm9_isTenant_w jo_mPl_86 hci_X9 (by decide) rfl (Nat.le_of_ble_eq_true rfl) (c9_isTenant _ _) (fun r23 => ?_)
      refine J_if_eq dX9_judge_48 (tgt := 77) (by decide) (fun c24 => ?_) (fun c24 => ?_)
      · exact c9_judge_b77 _ _ _
      · refine J_aload_n dX9_judge_51 rfl ?_
        refine J_getR dX9_judge_52 wX9_56 rfl jo_mPl_86 jr_86_24 ?_
        refine J_bipush dX9_judge_55 (v := (40 : Int32)) rfl ?_
        refine J_iload_n dX9_judge_57 rfl ?_
        refine J_imul dX9_judge_58 ?_
        refine J_iload_n dX9_judge_59 rfl ?_
        refine J_iadd dX9_judge_60 ?_
        refine JF_chk (fun c27 => ?_)
        refine J_iald dX9_judge_61 ji_mPl_100 jl_100 (jin_spec c27) rfl ?_
        refine J_aload_n dX9_judge_62 rfl ?_
        refine J_iload_n dX9_judge_63 rfl ?_
        refine J_iconst dX9_judge_64 (v := (3 : Int32)) rfl ?_
        refine J_callV_i (M' := m9_tenantIs) (as := [_, _]) dX9_judge_65 lX9_179 sm9_tenantIs sm9_tenantIs_w jo_mPl_86 hci_X9 (by decide) rfl (Nat.le_of_ble_eq_true rfl) (c9_tenantIs _ _ _) (fun r25 => ?_)
        refine J_icmp_ne dX9_judge_68 (tgt := 77) (by decide) (fun c26 => ?_) (fun c26 => ?_)
        · refine J_iinc dX9_judge_71 rfl (c0 := (1 : Int32)) rfl (by decide) rfl ?_
          refine J_goto dX9_judge_74 (tgt := 33) (by decide) ?_
          exact ih _ _ _
        · exact c9_judge_b77 _ _ _
set_option maxRecDepth 20000 in
theorem c9_judge (a1 : Int32) (μ : JMu) : ∀ b, f9_judge a1 μ = some b → JC m9_judge 2 mPl [.ref 86, .int (a1)] μ (some (.int b.1), b.2) := by
  refine JC_of (emb := (fun b : Int32 × JMu => (some (.int b.1), b.2))) (L0 := [some (.ref 86), some (.int (a1)), none]) sm9_judge (Nat.le_of_ble_eq_true rfl) rfl ?_
  unfold f9_judge
  refine J_iload_n dX9_judge_0 rfl ?_
  refine J_callS_i (M' := m9_isSheet) (as := [_]) dX9_judge_1 lX9_287 sm9_isSheet sm9_isSheet_w (by decide) rfl (Nat.le_of_ble_eq_true rfl) (c9_isSheet _ _) (fun r29 => ?_)
  refine J_if_ne dX9_judge_4 (tgt := 14) (by decide) (fun c30 => ?_) (fun c30 => ?_)
  · refine J_aload_n dX9_judge_7 rfl ?_
    refine J_ldc dX9_judge_8 kX9_80 ?_
    refine J_callV_w (M' := m9_finding) (as := [_]) dX9_judge_10 lX9_81 sm9_finding sm9_finding_w jo_mPl_86 hci_X9 (by decide) rfl (Nat.le_of_ble_eq_true rfl) (c9_finding _ _) (fun r34 => ?_)
    exact J_iret dX9_judge_13 rfl rfl
  · refine J_aload_n dX9_judge_14 rfl ?_
    refine J_getR dX9_judge_15 wX9_50 rfl jo_mPl_86 jr_86_22 ?_
    refine J_iload_n dX9_judge_18 rfl ?_
    refine JF_chk (fun c33 => ?_)
    refine J_iald dX9_judge_19 ji_mPl_98 jl_98 (jin_spec c33) rfl ?_
    refine J_if_ne dX9_judge_20 (tgt := 31) (by decide) (fun c31 => ?_) (fun c31 => ?_)
    · refine J_aload_n dX9_judge_23 rfl ?_
      refine J_ldcw dX9_judge_24 kX9_268 ?_
      refine J_callV_w (M' := m9_finding) (as := [_]) dX9_judge_27 lX9_81 sm9_finding sm9_finding_w jo_mPl_86 hci_X9 (by decide) rfl (Nat.le_of_ble_eq_true rfl) (c9_finding _ _) (fun r32 => ?_)
      exact J_iret dX9_judge_30 rfl rfl
    · refine J_iconst dX9_judge_31 (v := (0 : Int32)) rfl ?_
      refine J_istore_n dX9_judge_32  (by decide) rfl ?_
      exact c9_judge_b33 jN _ _ _

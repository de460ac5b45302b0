set_option maxRecDepth 20000 in
theorem c9_finding (a1 : Int32) (μ : JMu) : ∀ b, f9_finding a1 μ = some b → JC m9_finding 0 mPl [.ref 86, .int (a1)] μ (some (.int b.1), b.2) := by
  refine JC_of (emb := (fun b : Int32 × JMu => (some (.int b.1), b.2))) (L0 := [some (.ref 86), some (.int (a1))]) sm9_finding (Nat.le_of_ble_eq_true rfl) rfl ?_
  unfold f9_finding
  refine J_aload_n dX9_finding_0 rfl ?_
  refine J_getR dX9_finding_1 wX9_19 rfl jo_mPl_86 jr_86_4 ?_
  refine J_ldc dX9_finding_4 kX9_62 ?_
  refine J_iload_n dX9_finding_6 rfl ?_
  refine J_isub dX9_finding_7 ?_
  refine J_dup2 dX9_finding_8 rfl rfl ?_
  refine JF_chk (fun c4 => ?_)
  refine J_iald dX9_finding_9 ji_mPl_90 jl_90 (jin_spec c4) rfl ?_
  refine J_iconst dX9_finding_10 (v := (1 : Int32)) rfl ?_
  refine J_iadd dX9_finding_11 ?_
  refine JF_chk (fun c3 => ?_)
  refine J_iast dX9_finding_12 ji_mPl_90 jl_90 (jin_spec c3) rfl ?_
  refine J_iload_n dX9_finding_13 rfl ?_
  exact J_iret dX9_finding_14 rfl rfl
set_option maxRecDepth 20000 in
theorem c9_within (a1 : Int32) (a2 : Int32) (a3 : Int32) (μ : JMu) : ∀ b, f9_within a1 a2 a3 = some b → JC m9_within 0 mPl [.int (a1), .int (a2), .int (a3)] μ (some (.int b), μ) := by
  refine JC_of (emb := (fun b : Int32 => (some (.int b), μ))) (L0 := [some (.int (a1)), some (.int (a2)), some (.int (a3))]) sm9_within (Nat.le_of_ble_eq_true rfl) rfl ?_
  unfold f9_within
  refine J_iload_n dX9_within_0 rfl ?_
  refine J_iload_n dX9_within_1 rfl ?_
  refine J_icmp_lt dX9_within_2 (tgt := 14) (by decide) (fun c3 => ?_) (fun c3 => ?_)
  · refine J_iconst dX9_within_14 (v := (0 : Int32)) rfl ?_
    exact J_zret dX9_within_15 rfl (Or.inl rfl) rfl
  · refine J_iload_n dX9_within_5 rfl ?_
    refine J_iload_n dX9_within_6 rfl ?_
    refine J_icmp_gt dX9_within_7 (tgt := 14) (by decide) (fun c4 => ?_) (fun c4 => ?_)
    · refine J_iconst dX9_within_14 (v := (0 : Int32)) rfl ?_
      exact J_zret dX9_within_15 rfl (Or.inl rfl) rfl
    · refine J_iconst dX9_within_10 (v := (1 : Int32)) rfl ?_
      refine J_goto dX9_within_11 (tgt := 15) (by decide) ?_
      exact J_zret dX9_within_15 rfl (Or.inr rfl) rfl
set_option maxRecDepth 20000 in
theorem c9_hasBit (a1 : Int32) (a2 : Int32) (μ : JMu) : ∀ b, f9_hasBit a1 a2 = some b → JC m9_hasBit 0 mPl [.int (a1), .int (a2)] μ (some (.int b), μ) := by
  refine JC_of (emb := (fun b : Int32 => (some (.int b), μ))) (L0 := [some (.int (a1)), some (.int (a2))]) sm9_hasBit (Nat.le_of_ble_eq_true rfl) rfl ?_
  unfold f9_hasBit
  refine J_iload_n dX9_hasBit_0 rfl ?_
  refine J_iload_n dX9_hasBit_1 rfl ?_
  refine J_ishr dX9_hasBit_2 ?_
  refine J_iconst dX9_hasBit_3 (v := (1 : Int32)) rfl ?_
  refine J_iand dX9_hasBit_4 ?_
  refine J_iconst dX9_hasBit_5 (v := (1 : Int32)) rfl ?_
  refine J_icmp_ne dX9_hasBit_6 (tgt := 13) (by decide) (fun c2 => ?_) (fun c2 => ?_)
  · refine J_iconst dX9_hasBit_9 (v := (1 : Int32)) rfl ?_
    refine J_goto dX9_hasBit_10 (tgt := 14) (by decide) ?_
    exact J_zret dX9_hasBit_14 rfl (Or.inr rfl) rfl
  · refine J_iconst dX9_hasBit_13 (v := (0 : Int32)) rfl ?_
    exact J_zret dX9_hasBit_14 rfl (Or.inl rfl) rfl
set_option maxRecDepth 20000 in
theorem c9_bits_b4 (μ : JMu) (n : Nat) : ∀ (v1 : Int32) (v2 : Int32), JF m9_bits 0 mPl (fun b : Int32 => (some (.int b), μ)) 4 [none, some (.int (v1)), some (.int (v2))] [] μ (f9_bits_b4 n v1 v2) := by
  induction n with
  | zero => intros; exact JF_none
  | succ n ih =>
    intro v1 v2
    rw [f9_bits_b4]
    refine J_iload_n dX9_bits_4 rfl ?_
    refine J_if_eq dX9_bits_5 (tgt := 20) (by decide) (fun c2 => ?_) (fun c2 => ?_)
    · refine J_iload_n dX9_bits_20 rfl ?_
      exact J_iret dX9_bits_21 rfl rfl
    · refine J_iinc dX9_bits_8 rfl (c0 := (1 : Int32)) rfl (by decide) rfl ?_
      refine J_iload_n dX9_bits_11 rfl ?_
      refine J_iload_n dX9_bits_12 rfl ?_
      refine J_iconst dX9_bits_13 (v := (1 : Int32)) rfl ?_
      refine J_isub dX9_bits_14 ?_
      refine J_iand dX9_bits_15 ?_
      refine J_istore_n dX9_bits_16  (by decide) rfl ?_
      refine J_goto dX9_bits_17 (tgt := 4) (by decide) ?_
      exact ih _ _
set_option maxRecDepth 20000 in
theorem c9_bits (a1 : Int32) (μ : JMu) : ∀ b, f9_bits a1 = some b → JC m9_bits 0 mPl [.int (a1)] μ (some (.int b), μ) := by
  refine JC_of (emb := (fun b : Int32 => (some (.int b), μ))) (L0 := [some (.int (a1)), none, none]) sm9_bits (Nat.le_of_ble_eq_true rfl) rfl ?_
  unfold f9_bits
  refine J_iconst dX9_bits_0 (v := (0 : Int32)) rfl ?_
  refine J_istore_n dX9_bits_1  (by decide) rfl ?_
  refine J_iload_n dX9_bits_2 rfl ?_
  refine J_istore_n dX9_bits_3  (by decide) rfl ?_
  refine JF_drop [0] ?_
  exact c9_bits_b4 μ jN _ _
set_option maxRecDepth 20000 in
theorem c9_held (a1 : Int32) (a2 : Int32) (a3 : Int32) (μ : JMu) : ∀ b, f9_held a1 a2 a3 = some b → JC m9_held 1 mPl [.int (a1), .int (a2), .int (a3)] μ (some (.int b), μ) := by
  refine JC_of (emb := (fun b : Int32 => (some (.int b), μ))) (L0 := [some (.int (a1)), some (.int (a2)), some (.int (a3))]) sm9_held (Nat.le_of_ble_eq_true rfl) rfl ?_
  unfold f9_held
  refine J_iload_n dX9_held_0 rfl ?_
  refine J_iload_n dX9_held_1 rfl ?_
  refine J_iload_n dX9_held_2 rfl ?_
  refine J_min dX9_held_3 lX9_63 wm_min_s wm_i wm_min_c (by decide) (Nat.le_of_ble_eq_true rfl) ?_
  refine J_max dX9_held_6 lX9_69 wm_max_s wm_i wm_max_c (by decide) (Nat.le_of_ble_eq_true rfl) ?_
  exact J_iret dX9_held_9 rfl rfl
set_option maxRecDepth 20000 in
theorem c9_copy_b2 (a1 : Nat) (a2 : Nat) (o_a1 : jI mPl a1 = true) (o_a2 : jI mPl a2 = true) (n : Nat) : ∀ (v2 : Int32) (μ : JMu), JF m9_copy 0 mPl (fun b : JMu => (none, b)) 2 [some (.ref a1), some (.ref a2), some (.int (v2))] [] μ (f9_copy_b2 a1 a2 n v2 μ) := by
  induction n with
  | zero => intros; exact JF_none
  | succ n ih =>
    intro v2 μ
    rw [f9_copy_b2]
    refine J_iload_n dX9_copy_2 rfl ?_
    refine J_sipush dX9_copy_3 (v := (210 : Int32)) rfl ?_
    refine J_icmp_ge dX9_copy_6 (tgt := 21) (by decide) (fun c4 => ?_) (fun c4 => ?_)
    · exact J_vret dX9_copy_21 rfl rfl
    · refine J_aload_n dX9_copy_9 rfl ?_
      refine J_iload_n dX9_copy_10 rfl ?_
      refine J_aload_n dX9_copy_11 rfl ?_
      refine J_iload_n dX9_copy_12 rfl ?_
      refine JF_chk (fun c6 => ?_)
      refine J_iald dX9_copy_13 o_a1 rfl (jin_spec c6) rfl ?_
      refine JF_chk (fun c5 => ?_)
      refine J_iast dX9_copy_14 o_a2 rfl (jin_spec c5) rfl ?_
      refine J_iinc dX9_copy_15 rfl (c0 := (1 : Int32)) rfl (by decide) rfl ?_
      refine J_goto dX9_copy_18 (tgt := 2) (by decide) ?_
      exact ih _ _
set_option maxRecDepth 20000 in
theorem c9_copy (a1 : Nat) (a2 : Nat) (μ : JMu) : ∀ b, f9_copy a1 a2 μ = some b → JC m9_copy 0 mPl [.ref a1, .ref a2] μ (none, b) := by
  refine JC_of (emb := (fun b : JMu => (none, b))) (L0 := [some (.ref a1), some (.ref a2), none]) sm9_copy (Nat.le_of_ble_eq_true rfl) rfl ?_
  unfold f9_copy
  refine JF_chk (fun o_a1 => ?_)
  refine JF_chk (fun o_a2 => ?_)
  refine J_iconst dX9_copy_0 (v := (0 : Int32)) rfl ?_
  refine J_istore_n dX9_copy_1  (by decide) rfl ?_
  exact c9_copy_b2 a1 a2 o_a1 o_a2 jN _ _
set_option maxRecDepth 20000 in
theorem c9_turn (a1 : Int32) (a2 : Int32) (μ : JMu) : ∀ b, f9_turn a1 a2 μ = some b → JC m9_turn 0 mPl [.ref 86, .int (a1), .int (a2)] μ (some (.int b.1), b.2) := by
  refine JC_of (emb := (fun b : Int32 × JMu => (some (.int b.1), b.2))) (L0 := [some (.ref 86), some (.int (a1)), some (.int (a2)), none]) sm9_turn (Nat.le_of_ble_eq_true rfl) rfl ?_
  unfold f9_turn
  refine J_aload_n dX9_turn_0 rfl ?_
  refine J_getR dX9_turn_1 wX9_9 rfl jo_mPl_86 jr_86_0 ?_
  refine J_iload_n dX9_turn_4 rfl ?_
  refine JF_chk (fun c4 => ?_)
  refine J_iald dX9_turn_5 ji_mPl_87 jl_87 (jin_spec c4) rfl ?_
  refine J_istore_n dX9_turn_6  (by decide) rfl ?_
  refine J_aload_n dX9_turn_7 rfl ?_
  refine J_getR dX9_turn_8 wX9_9 rfl jo_mPl_86 jr_86_0 ?_
  refine J_iload_n dX9_turn_11 rfl ?_
  refine J_iload_n dX9_turn_12 rfl ?_
  refine JF_chk (fun c3 => ?_)
  refine J_iast dX9_turn_13 ji_mPl_87 jl_87 (jin_spec c3) rfl ?_
  refine J_iload_n dX9_turn_14 rfl ?_
  exact J_iret dX9_turn_15 rfl rfl
set_option maxRecDepth 20000 in
theorem c9_putBack (a1 : Int32) (μ : JMu) : ∀ b, f9_putBack a1 μ = some b → JC m9_putBack 1 mPl [.ref 86, .int (a1)] μ (some (.int b.1), b.2) := by
  refine JC_of (emb := (fun b : Int32 × JMu => (some (.int b.1), b.2))) (L0 := [some (.ref 86), some (.int (a1))]) sm9_putBack (Nat.le_of_ble_eq_true rfl) rfl ?_
  unfold f9_putBack
  refine J_aload_n dX9_putBack_0 rfl ?_
  refine J_getR dX9_putBack_1 wX9_16 rfl jo_mPl_86 jr_86_2 ?_
  refine J_aload_n dX9_putBack_4 rfl ?_
  refine J_getR dX9_putBack_5 wX9_9 rfl jo_mPl_86 jr_86_0 ?_
  refine J_callS_v (M' := m9_copy) (as := [_, _]) dX9_putBack_8 lX9_72 sm9_copy sm9_copy_w (by decide) rfl (Nat.le_of_ble_eq_true rfl) (c9_copy _ _ _) (fun r2 => ?_)
  refine J_iload_n dX9_putBack_11 rfl ?_
  exact J_iret dX9_putBack_12 rfl rfl
set_option maxRecDepth 20000 in
theorem c9_feed_b40 (n : Nat) : ∀ (v1 : Int64) (v3 : Int32) (v4 : Int32) (μ : JMu), JF m9_feed 1 mPl (fun b : Int32 × JMu => (some (.int b.1), b.2)) 40 [some (.ref 86), some (.long (v1)), none, some (.int (v3)), some (.int (v4))] [] μ (f9_feed_b40 n v1 v3 v4 μ) := by
  induction n with
  | zero => intros; exact JF_none
  | succ n ih =>
    intro v1 v3 v4 μ
    rw [f9_feed_b40]
    refine J_iload dX9_feed_40 rfl ?_
    refine J_iload_n dX9_feed_42 rfl ?_
    refine J_icmp_ge dX9_feed_43 (tgt := 88) (by decide) (fun c13 => ?_) (fun c13 => ?_)
    · refine J_aload_n dX9_feed_88 rfl ?_
      refine J_getR dX9_feed_89 wX9_9 rfl jo_mPl_86 jr_86_0 ?_
      refine J_iconst dX9_feed_92 (v := (3 : Int32)) rfl ?_
      refine J_iald dX9_feed_93 ji_mPl_87 jl_87 (jin_spec (by decide)) (j := 3) rfl ?_
      exact J_iret dX9_feed_94 rfl rfl
    · refine J_aload_n dX9_feed_46 rfl ?_
      refine J_getR dX9_feed_47 wX9_9 rfl jo_mPl_86 jr_86_0 ?_
      refine J_bipush dX9_feed_50 (v := (36 : Int32)) rfl ?_
      refine J_aload_n dX9_feed_52 rfl ?_
      refine J_getR dX9_feed_53 wX9_9 rfl jo_mPl_86 jr_86_0 ?_
      refine J_iconst dX9_feed_56 (v := (3 : Int32)) rfl ?_
      refine J_iald dX9_feed_57 ji_mPl_87 jl_87 (jin_spec (by decide)) (j := 3) rfl ?_
      refine J_iadd dX9_feed_58 ?_
      refine J_lload_n dX9_feed_59 rfl ?_
      refine J_bipush dX9_feed_60 (v := (8 : Int32)) rfl ?_
      refine J_iload dX9_feed_62 rfl ?_
      refine J_imul dX9_feed_64 ?_
      refine J_lshr dX9_feed_65 ?_
      refine J_ldc2 dX9_feed_66 kX9_86 ?_
      refine J_land dX9_feed_69 ?_
      refine J_l2i dX9_feed_70 ?_
      refine JF_chk (fun c17 => ?_)
      refine J_iast dX9_feed_71 ji_mPl_87 jl_87 (jin_spec c17) rfl ?_
      refine J_aload_n dX9_feed_72 rfl ?_
      refine J_getR dX9_feed_73 wX9_9 rfl jo_mPl_86 jr_86_0 ?_
      refine J_iconst dX9_feed_76 (v := (3 : Int32)) rfl ?_
      refine J_dup2 dX9_feed_77 rfl rfl ?_
      refine J_iald dX9_feed_78 ji_mPl_87 jl_87 (jin_spec (by decide)) (j := 3) rfl ?_
      refine J_iconst dX9_feed_79 (v := (1 : Int32)) rfl ?_
      refine J_iadd dX9_feed_80 ?_
      refine J_iast dX9_feed_81 ji_mPl_87 jl_87 (jin_spec (by decide)) (j := 3) rfl ?_
      refine J_iinc dX9_feed_82 rfl (c0 := (1 : Int32)) rfl (by decide) rfl ?_
      refine J_goto dX9_feed_85 (tgt := 40) (by decide) ?_
      exact ih _ _ _ _
set_option maxRecDepth 20000 in
theorem c9_feed (a1 : Int64) (a2 : Int32) (μ : JMu) : ∀ b, f9_feed a1 a2 μ = some b → JC m9_feed 1 mPl [.ref 86, .long (a1), .int (a2)] μ (some (.int b.1), b.2) := by
  refine JC_of (emb := (fun b : Int32 × JMu => (some (.int b.1), b.2))) (L0 := [some (.ref 86), some (.long (a1)), none, some (.int (a2)), none]) sm9_feed (Nat.le_of_ble_eq_true rfl) rfl ?_
  unfold f9_feed
  refine J_iload_n dX9_feed_0 rfl ?_
  refine J_iconst dX9_feed_1 (v := (1 : Int32)) rfl ?_
  refine J_bipush dX9_feed_2 (v := (8 : Int32)) rfl ?_
  refine J_callS_i (M' := m9_within) (as := [_, _, _]) dX9_feed_4 lX9_76 sm9_within sm9_within_w (by decide) rfl (Nat.le_of_ble_eq_true rfl) (c9_within _ _ _ _) (fun r19 => ?_)
  refine J_if_ne dX9_feed_7 (tgt := 17) (by decide) (fun c20 => ?_) (fun c20 => ?_)
  · refine J_aload_n dX9_feed_10 rfl ?_
    refine J_ldc dX9_feed_11 kX9_80 ?_
    refine J_callV_w (M' := m9_finding) (as := [_]) dX9_feed_13 lX9_81 sm9_finding sm9_finding_w jo_mPl_86 hci_X9 (by decide) rfl (Nat.le_of_ble_eq_true rfl) (c9_finding _ _) (fun r24 => ?_)
    exact J_iret dX9_feed_16 rfl rfl
  · refine J_aload_n dX9_feed_17 rfl ?_
    refine J_getR dX9_feed_18 wX9_9 rfl jo_mPl_86 jr_86_0 ?_
    refine J_iconst dX9_feed_21 (v := (3 : Int32)) rfl ?_
    refine J_iald dX9_feed_22 ji_mPl_87 jl_87 (jin_spec (by decide)) (j := 3) rfl ?_
    refine J_iload_n dX9_feed_23 rfl ?_
    refine J_iadd dX9_feed_24 ?_
    refine J_bipush dX9_feed_25 (v := (50 : Int32)) rfl ?_
    refine J_icmp_le dX9_feed_27 (tgt := 37) (by decide) (fun c21 => ?_) (fun c21 => ?_)
    · refine J_iconst dX9_feed_37 (v := (0 : Int32)) rfl ?_
      refine J_istore dX9_feed_38  (by decide) rfl ?_
      exact c9_feed_b40 jN _ _ _ _
    · refine J_aload_n dX9_feed_30 rfl ?_
      refine J_ldc dX9_feed_31 kX9_85 ?_
      refine J_callV_w (M' := m9_finding) (as := [_]) dX9_feed_33 lX9_81 sm9_finding sm9_finding_w jo_mPl_86 hci_X9 (by decide) rfl (Nat.le_of_ble_eq_true rfl) (c9_finding _ _) (fun r22 => ?_)
      exact J_iret dX9_feed_36 rfl rfl
set_option maxRecDepth 20000 in
theorem c9_here (μ : JMu) : ∀ b, f9_here  μ = some b → JC m9_here 0 mPl [.ref 86] μ (some (.int b), μ) := by
  refine JC_of (emb := (fun b : Int32 => (some (.int b), μ))) (L0 := [some (.ref 86)]) sm9_here (Nat.le_of_ble_eq_true rfl) rfl ?_
  unfold f9_here
  refine J_aload_n dX9_here_0 rfl ?_
  refine J_getI dX9_here_1 wX9_88 rfl jo_mPl_86 ?_
  refine J_if_ne dX9_here_4 (tgt := 35) (by decide) (fun c5 => ?_) (fun c5 => ?_)
  · refine J_aload_n dX9_here_7 rfl ?_
    refine J_getI dX9_here_8 wX9_92 rfl jo_mPl_86 ?_
    refine J_aload_n dX9_here_11 rfl ?_
    refine J_getR dX9_here_12 wX9_9 rfl jo_mPl_86 jr_86_0 ?_
    refine J_iconst dX9_here_15 (v := (3 : Int32)) rfl ?_
    refine J_iald dX9_here_16 ji_mPl_87 jl_87 (jin_spec (by decide)) (j := 3) rfl ?_
    refine J_icmp_ge dX9_here_17 (tgt := 35) (by decide) (fun c6 => ?_) (fun c6 => ?_)
    · refine J_iconst dX9_here_35 (v := (-1 : Int32)) rfl ?_
      exact J_iret dX9_here_36 rfl rfl
    · refine J_aload_n dX9_here_20 rfl ?_
      refine J_getR dX9_here_21 wX9_9 rfl jo_mPl_86 jr_86_0 ?_
      refine J_bipush dX9_here_24 (v := (36 : Int32)) rfl ?_
      refine J_aload_n dX9_here_26 rfl ?_
      refine J_getI dX9_here_27 wX9_92 rfl jo_mPl_86 ?_
      refine J_iadd dX9_here_30 ?_
      refine JF_chk (fun c7 => ?_)
      refine J_iald dX9_here_31 ji_mPl_87 jl_87 (jin_spec c7) rfl ?_
      refine J_goto dX9_here_32 (tgt := 36) (by decide) ?_
      exact J_iret dX9_here_36 rfl rfl
  · refine J_iconst dX9_here_35 (v := (-1 : Int32)) rfl ?_
    exact J_iret dX9_here_36 rfl rfl
set_option maxRecDepth 20000 in
theorem c9_takes_b28 (v2 : Int32) (s0 : Int32) (s1 : Int32) (μ : JMu) : JF m9_takes 1 mPl (fun b : Int32 × JMu => (some (.int b.1), b.2)) 28 [none, none, some (.int (v2))] [.int (s0), .int (s1), .ref 86] μ (f9_takes_b28 v2 s0 s1 μ) := by
  unfold f9_takes_b28
  refine J_iadd dX9_takes_28 ?_
  refine J_putI dX9_takes_29 wX9_92 rfl jo_mPl_86 ?_
  refine J_iload_n dX9_takes_32 rfl ?_
  refine JF_chk (fun c5 => ?_)
  exact J_zret dX9_takes_33 rfl c5 rfl
set_option maxRecDepth 20000 in
theorem c9_takes_b13 (s0 : Int32) (μ : JMu) : JF m9_takes 1 mPl (fun b : Int32 × JMu => (some (.int b.1), b.2)) 13 [some (.ref 86), none, none] [.int (s0)] μ (f9_takes_b13 s0 μ) := by
  unfold f9_takes_b13
  refine J_istore_n dX9_takes_13  (by decide) rfl ?_
  refine J_aload_n dX9_takes_14 rfl ?_
  refine J_dup dX9_takes_15 rfl ?_
  refine J_getI dX9_takes_16 wX9_92 rfl jo_mPl_86 ?_
  refine J_iload_n dX9_takes_19 rfl ?_
  refine J_if_eq dX9_takes_20 (tgt := 27) (by decide) (fun c6 => ?_) (fun c6 => ?_)
  · refine J_iconst dX9_takes_27 (v := (0 : Int32)) rfl ?_
    refine JF_drop [0] ?_
    exact c9_takes_b28 _ _ _ _
  · refine J_iconst dX9_takes_23 (v := (1 : Int32)) rfl ?_
    refine J_goto dX9_takes_24 (tgt := 28) (by decide) ?_
    refine JF_drop [0] ?_
    exact c9_takes_b28 _ _ _ _
set_option maxRecDepth 20000 in
theorem c9_takes (a1 : Int32) (μ : JMu) : ∀ b, f9_takes a1 μ = some b → JC m9_takes 1 mPl [.ref 86, .int (a1)] μ (some (.int b.1), b.2) := by
  refine JC_of (emb := (fun b : Int32 × JMu => (some (.int b.1), b.2))) (L0 := [some (.ref 86), some (.int (a1)), none]) sm9_takes (Nat.le_of_ble_eq_true rfl) rfl ?_
  unfold f9_takes
  refine J_aload_n dX9_takes_0 rfl ?_
  refine J_callV_i (M' := m9_here) (as := []) dX9_takes_1 lX9_96 sm9_here sm9_here_w jo_mPl_86 hci_X9 (by decide) rfl (Nat.le_of_ble_eq_true rfl) (c9_here  _) (fun r7 => ?_)
  refine J_iload_n dX9_takes_4 rfl ?_
  refine J_icmp_ne dX9_takes_5 (tgt := 12) (by decide) (fun c8 => ?_) (fun c8 => ?_)
  · refine J_iconst dX9_takes_8 (v := (1 : Int32)) rfl ?_
    refine J_goto dX9_takes_9 (tgt := 13) (by decide) ?_
    refine JF_drop [1] ?_
    exact c9_takes_b13 _ _
  · refine J_iconst dX9_takes_12 (v := (0 : Int32)) rfl ?_
    refine JF_drop [1] ?_
    exact c9_takes_b13 _ _
set_option maxRecDepth 20000 in
theorem c9_codes (a1 : Int32) (μ : JMu) : ∀ b, f9_codes a1 μ = some b → JC m9_codes 0 mPl [.ref 86, .int (a1)] μ (none, b) := by
  refine JC_of (emb := (fun b : JMu => (none, b))) (L0 := [some (.ref 86), some (.int (a1))]) sm9_codes (Nat.le_of_ble_eq_true rfl) rfl ?_
  unfold f9_codes
  refine J_aload_n dX9_codes_0 rfl ?_
  refine J_getI dX9_codes_1 wX9_88 rfl jo_mPl_86 ?_
  refine J_if_ne dX9_codes_4 (tgt := 27) (by decide) (fun c3 => ?_) (fun c3 => ?_)
  · refine J_aload_n dX9_codes_7 rfl ?_
    refine J_getR dX9_codes_8 wX9_32 rfl jo_mPl_86 jr_86_10 ?_
    refine J_aload_n dX9_codes_11 rfl ?_
    refine J_getI dX9_codes_12 wX9_100 rfl jo_mPl_86 ?_
    refine J_iload_n dX9_codes_15 rfl ?_
    refine JF_chk (fun c4 => ?_)
    refine J_iast dX9_codes_16 ji_mPl_92 jl_92 (jin_spec c4) rfl ?_
    refine J_aload_n dX9_codes_17 rfl ?_
    refine J_dup dX9_codes_18 rfl ?_
    refine J_getI dX9_codes_19 wX9_100 rfl jo_mPl_86 ?_
    refine J_iconst dX9_codes_22 (v := (1 : Int32)) rfl ?_
    refine J_iadd dX9_codes_23 ?_
    refine J_putI dX9_codes_24 wX9_100 rfl jo_mPl_86 ?_
    exact J_vret dX9_codes_27 rfl rfl
  · exact J_vret dX9_codes_27 rfl rfl
set_option maxRecDepth 20000 in
theorem c9_either_b4 (k : Nat) (r0 : JMu → Option (JMu)) (r1 : JMu → Option (JMu)) (r2 : JMu → Option (JMu)) (r3 : JMu → Option (JMu)) (r4 : JMu → Option (JMu)) (r5 : JMu → Option (JMu)) (hr0 : ∀  (μ : JMu) (b : JMu), r0  μ = some b → JC m9_either (10 + k) mPl [.ref 86] μ (none, b)) (hr1 : ∀  (μ : JMu) (b : JMu), r1  μ = some b → JC m9_both (10 + k) mPl [.ref 86] μ (none, b)) (hr2 : ∀  (μ : JMu) (b : JMu), r2  μ = some b → JC m9_compared (10 + k) mPl [.ref 86] μ (none, b)) (hr3 : ∀  (μ : JMu) (b : JMu), r3  μ = some b → JC m9_sum (10 + k) mPl [.ref 86] μ (none, b)) (hr4 : ∀  (μ : JMu) (b : JMu), r4  μ = some b → JC m9_product (10 + k) mPl [.ref 86] μ (none, b)) (hr5 : ∀  (μ : JMu) (b : JMu), r5  μ = some b → JC m9_one (10 + k) mPl [.ref 86] μ (none, b)) (n : Nat) : ∀ (μ : JMu), JF m9_either (10 + k + 1) mPl (fun b : JMu => (none, b)) 4 [some (.ref 86)] [] μ (f9_either_b4 r0 r1 r2 r3 r4 r5 n  μ) := by
  induction n with
  | zero => intros; exact JF_none
  | succ n ih =>
    intro μ
    rw [f9_either_b4]
    refine J_aload_n dX9_either_4 rfl ?_
    refine J_bipush dX9_either_5 (v := (124 : Int32)) rfl ?_
    refine J_callV_w (M' := m9_takes) (as := [_]) dX9_either_7 lX9_106 sm9_takes sm9_takes_w jo_mPl_86 hci_X9 (by omega) rfl (Nat.le_of_ble_eq_true rfl) (c9_takes _ _) (fun r6 => ?_)
    refine J_if_eq dX9_either_10 (tgt := 27) (by decide) (fun c7 => ?_) (fun c7 => ?_)
    · exact J_vret dX9_either_27 rfl rfl
    · refine J_aload_n dX9_either_13 rfl ?_
      refine J_callV_v (M' := m9_both) (as := []) dX9_either_14 lX9_103 sm9_both sm9_both_w jo_mPl_86 hci_X9 (by omega) rfl (Nat.le_of_ble_eq_true rfl) (hr1  _) (fun r8 => ?_)
      refine J_aload_n dX9_either_17 rfl ?_
      refine J_sipush dX9_either_18 (v := (20000 : Int32)) rfl ?_
      refine J_callV_v (M' := m9_codes) (as := [_]) dX9_either_21 lX9_110 sm9_codes sm9_codes_w jo_mPl_86 hci_X9 (by omega) rfl (Nat.le_of_ble_eq_true rfl) (c9_codes _ _) (fun r9 => ?_)
      refine J_goto dX9_either_24 (tgt := 4) (by decide) ?_
      exact ih  _
set_option maxRecDepth 20000 in
theorem c9_either_o (k : Nat) (r0 : JMu → Option (JMu)) (r1 : JMu → Option (JMu)) (r2 : JMu → Option (JMu)) (r3 : JMu → Option (JMu)) (r4 : JMu → Option (JMu)) (r5 : JMu → Option (JMu)) (hr0 : ∀  (μ : JMu) (b : JMu), r0  μ = some b → JC m9_either (10 + k) mPl [.ref 86] μ (none, b)) (hr1 : ∀  (μ : JMu) (b : JMu), r1  μ = some b → JC m9_both (10 + k) mPl [.ref 86] μ (none, b)) (hr2 : ∀  (μ : JMu) (b : JMu), r2  μ = some b → JC m9_compared (10 + k) mPl [.ref 86] μ (none, b)) (hr3 : ∀  (μ : JMu) (b : JMu), r3  μ = some b → JC m9_sum (10 + k) mPl [.ref 86] μ (none, b)) (hr4 : ∀  (μ : JMu) (b : JMu), r4  μ = some b → JC m9_product (10 + k) mPl [.ref 86] μ (none, b)) (hr5 : ∀  (μ : JMu) (b : JMu), r5  μ = some b → JC m9_one (10 + k) mPl [.ref 86] μ (none, b)) (μ : JMu) : ∀ b, f9_either_o r0 r1 r2 r3 r4 r5  μ = some b → JC m9_either (10 + k + 1) mPl [.ref 86] μ (none, b) := by
  refine JC_of (emb := (fun b : JMu => (none, b))) (L0 := [some (.ref 86)]) sm9_either (Nat.le_of_ble_eq_true rfl) rfl ?_
  unfold f9_either_o
  refine J_aload_n dX9_either_0 rfl ?_
  refine J_callV_v (M' := m9_both) (as := []) dX9_either_1 lX9_103 sm9_both sm9_both_w jo_mPl_86 hci_X9 (by omega) rfl (Nat.le_of_ble_eq_true rfl) (hr1  _) (fun r10 => ?_)
  exact c9_either_b4 k r0 r1 r2 r3 r4 r5 hr0 hr1 hr2 hr3 hr4 hr5 jN  _
set_option maxRecDepth 20000 in
theorem c9_both_b4 (k : Nat) (r0 : JMu → Option (JMu)) (r1 : JMu → Option (JMu)) (r2 : JMu → Option (JMu)) (r3 : JMu → Option (JMu)) (r4 : JMu → Option (JMu)) (r5 : JMu → Option (JMu)) (hr0 : ∀  (μ : JMu) (b : JMu), r0  μ = some b → JC m9_either (10 + k) mPl [.ref 86] μ (none, b)) (hr1 : ∀  (μ : JMu) (b : JMu), r1  μ = some b → JC m9_both (10 + k) mPl [.ref 86] μ (none, b)) (hr2 : ∀  (μ : JMu) (b : JMu), r2  μ = some b → JC m9_compared (10 + k) mPl [.ref 86] μ (none, b)) (hr3 : ∀  (μ : JMu) (b : JMu), r3  μ = some b → JC m9_sum (10 + k) mPl [.ref 86] μ (none, b)) (hr4 : ∀  (μ : JMu) (b : JMu), r4  μ = some b → JC m9_product (10 + k) mPl [.ref 86] μ (none, b)) (hr5 : ∀  (μ : JMu) (b : JMu), r5  μ = some b → JC m9_one (10 + k) mPl [.ref 86] μ (none, b)) (n : Nat) : ∀ (μ : JMu), JF m9_both (10 + k + 1) mPl (fun b : JMu => (none, b)) 4 [some (.ref 86)] [] μ (f9_both_b4 r0 r1 r2 r3 r4 r5 n  μ) := by
  induction n with
  | zero => intros; exact JF_none
  | succ n ih =>
    intro μ
    rw [f9_both_b4]
    refine J_aload_n dX9_both_4 rfl ?_
    refine J_bipush dX9_both_5 (v := (38 : Int32)) rfl ?_
    refine J_callV_w (M' := m9_takes) (as := [_]) dX9_both_7 lX9_106 sm9_takes sm9_takes_w jo_mPl_86 hci_X9 (by omega) rfl (Nat.le_of_ble_eq_true rfl) (c9_takes _ _) (fun r6 => ?_)
    refine J_if_eq dX9_both_10 (tgt := 27) (by decide) (fun c7 => ?_) (fun c7 => ?_)
    · exact J_vret dX9_both_27 rfl rfl
    · refine J_aload_n dX9_both_13 rfl ?_
      refine J_callV_v (M' := m9_compared) (as := []) dX9_both_14 lX9_114 sm9_compared sm9_compared_w jo_mPl_86 hci_X9 (by omega) rfl (Nat.le_of_ble_eq_true rfl) (hr2  _) (fun r8 => ?_)
      refine J_aload_n dX9_both_17 rfl ?_
      refine J_sipush dX9_both_18 (v := (20001 : Int32)) rfl ?_
      refine J_callV_v (M' := m9_codes) (as := [_]) dX9_both_21 lX9_110 sm9_codes sm9_codes_w jo_mPl_86 hci_X9 (by omega) rfl (Nat.le_of_ble_eq_true rfl) (c9_codes _ _) (fun r9 => ?_)
      refine J_goto dX9_both_24 (tgt := 4) (by decide) ?_
      exact ih  _
set_option maxRecDepth 20000 in
theorem c9_both_o (k : Nat) (r0 : JMu → Option (JMu)) (r1 : JMu → Option (JMu)) (r2 : JMu → Option (JMu)) (r3 : JMu → Option (JMu)) (r4 : JMu → Option (JMu)) (r5 : JMu → Option (JMu)) (hr0 : ∀  (μ : JMu) (b : JMu), r0  μ = some b → JC m9_either (10 + k) mPl [.ref 86] μ (none, b)) (hr1 : ∀  (μ : JMu) (b : JMu), r1  μ = some b → JC m9_both (10 + k) mPl [.ref 86] μ (none, b)) (hr2 : ∀  (μ : JMu) (b : JMu), r2  μ = some b → JC m9_compared (10 + k) mPl [.ref 86] μ (none, b)) (hr3 : ∀  (μ : JMu) (b : JMu), r3  μ = some b → JC m9_sum (10 + k) mPl [.ref 86] μ (none, b)) (hr4 : ∀  (μ : JMu) (b : JMu), r4  μ = some b → JC m9_product (10 + k) mPl [.ref 86] μ (none, b)) (hr5 : ∀  (μ : JMu) (b : JMu), r5  μ = some b → JC m9_one (10 + k) mPl [.ref 86] μ (none, b)) (μ : JMu) : ∀ b, f9_both_o r0 r1 r2 r3 r4 r5  μ = some b → JC m9_both (10 + k + 1) mPl [.ref 86] μ (none, b) := by
  refine JC_of (emb := (fun b : JMu => (none, b))) (L0 := [some (.ref 86)]) sm9_both (Nat.le_of_ble_eq_true rfl) rfl ?_
  unfold f9_both_o
  refine J_aload_n dX9_both_0 rfl ?_
  refine J_callV_v (M' := m9_compared) (as := []) dX9_both_1 lX9_114 sm9_compared sm9_compared_w jo_mPl_86 hci_X9 (by omega) rfl (Nat.le_of_ble_eq_true rfl) (hr2  _) (fun r10 => ?_)
  exact c9_both_b4 k r0 r1 r2 r3 r4 r5 hr0 hr1 hr2 hr3 hr4 hr5 jN  _
set_option maxRecDepth 20000 in
theorem c9_compared_b50 (k : Nat) (r0 : JMu → Option (JMu)) (r1 : JMu → Option (JMu)) (r2 : JMu → Option (JMu)) (r3 : JMu → Option (JMu)) (r4 : JMu → Option (JMu)) (r5 : JMu → Option (JMu)) (hr0 : ∀  (μ : JMu) (b : JMu), r0  μ = some b → JC m9_either (10 + k) mPl [.ref 86] μ (none, b)) (hr1 : ∀  (μ : JMu) (b : JMu), r1  μ = some b → JC m9_both (10 + k) mPl [.ref 86] μ (none, b)) (hr2 : ∀  (μ : JMu) (b : JMu), r2  μ = some b → JC m9_compared (10 + k) mPl [.ref 86] μ (none, b)) (hr3 : ∀  (μ : JMu) (b : JMu), r3  μ = some b → JC m9_sum (10 + k) mPl [.ref 86] μ (none, b)) (hr4 : ∀  (μ : JMu) (b : JMu), r4  μ = some b → JC m9_product (10 + k) mPl [.ref 86] μ (none, b)) (hr5 : ∀  (μ : JMu) (b : JMu), r5  μ = some b → JC m9_one (10 + k) mPl [.ref 86] μ (none, b)) (s0 : Int32) (μ : JMu) : JF m9_compared (10 + k + 1) mPl (fun b : JMu => (none, b)) 50 [some (.ref 86), none] [.int (s0)] μ (f9_compared_b50 r0 r1 r2 r3 r4 r5 s0 μ) := by
  unfold f9_compared_b50
  refine J_istore_n dX9_compared_50  (by decide) rfl ?_
  refine J_iload_n dX9_compared_51 rfl ?_
  refine J_if_le dX9_compared_52 (tgt := 64) (by decide) (fun c11 => ?_) (fun c11 => ?_)
  · exact J_vret dX9_compared_64 rfl rfl
  · refine J_aload_n dX9_compared_55 rfl ?_
    refine J_callV_v (M' := m9_sum) (as := []) dX9_compared_56 lX9_117 sm9_sum sm9_sum_w jo_mPl_86 hci_X9 (by omega) rfl (Nat.le_of_ble_eq_true rfl) (hr3  _) (fun r12 => ?_)
    refine J_aload_n dX9_compared_59 rfl ?_
    refine J_iload_n dX9_compared_60 rfl ?_
    refine J_callV_v (M' := m9_codes) (as := [_]) dX9_compared_61 lX9_110 sm9_codes sm9_codes_w jo_mPl_86 hci_X9 (by omega) rfl (Nat.le_of_ble_eq_true rfl) (c9_codes _ _) (fun r13 => ?_)
    exact J_vret dX9_compared_64 rfl rfl
set_option maxRecDepth 20000 in
theorem c9_compared_o (k : Nat) (r0 : JMu → Option (JMu)) (r1 : JMu → Option (JMu)) (r2 : JMu → Option (JMu)) (r3 : JMu → Option (JMu)) (r4 : JMu → Option (JMu)) (r5 : JMu → Option (JMu)) (hr0 : ∀  (μ : JMu) (b : JMu), r0  μ = some b → JC m9_either (10 + k) mPl [.ref 86] μ (none, b)) (hr1 : ∀  (μ : JMu) (b : JMu), r1  μ = some b → JC m9_both (10 + k) mPl [.ref 86] μ (none, b)) (hr2 : ∀  (μ : JMu) (b : JMu), r2  μ = some b → JC m9_compared (10 + k) mPl [.ref 86] μ (none, b)) (hr3 : ∀  (μ : JMu) (b : JMu), r3  μ = some b → JC m9_sum (10 + k) mPl [.ref 86] μ (none, b)) (hr4 : ∀  (μ : JMu) (b : JMu), r4  μ = some b → JC m9_product (10 + k) mPl [.ref 86] μ (none, b)) (hr5 : ∀  (μ : JMu) (b : JMu), r5  μ = some b → JC m9_one (10 + k) mPl [.ref 86] μ (none, b)) (μ : JMu) : ∀ b, f9_compared_o r0 r1 r2 r3 r4 r5  μ = some b → JC m9_compared (10 + k + 1) mPl [.ref 86] μ (none, b) := by
  refine JC_of (emb := (fun b : JMu => (none, b))) (L0 := [some (.ref 86), none]) sm9_compared (Nat.le_of_ble_eq_true rfl) rfl ?_
  unfold f9_compared_o
  refine J_aload_n dX9_compared_0 rfl ?_
  refine J_callV_v (M' := m9_sum) (as := []) dX9_compared_1 lX9_117 sm9_sum sm9_sum_w jo_mPl_86 hci_X9 (by omega) rfl (Nat.le_of_ble_eq_true rfl) (hr3  _) (fun r14 => ?_)
  refine J_aload_n dX9_compared_4 rfl ?_
  refine J_bipush dX9_compared_5 (v := (60 : Int32)) rfl ?_
  refine J_callV_w (M' := m9_takes) (as := [_]) dX9_compared_7 lX9_106 sm9_takes sm9_takes_w jo_mPl_86 hci_X9 (by omega) rfl (Nat.le_of_ble_eq_true rfl) (c9_takes _ _) (fun r15 => ?_)
  refine J_if_eq dX9_compared_10 (tgt := 19) (by decide) (fun c16 => ?_) (fun c16 => ?_)
  · refine J_aload_n dX9_compared_19 rfl ?_
    refine J_bipush dX9_compared_20 (v := (61 : Int32)) rfl ?_
    refine J_callV_w (M' := m9_takes) (as := [_]) dX9_compared_22 lX9_106 sm9_takes sm9_takes_w jo_mPl_86 hci_X9 (by omega) rfl (Nat.le_of_ble_eq_true rfl) (c9_takes _ _) (fun r17 => ?_)
    refine J_if_eq dX9_compared_25 (tgt := 34) (by decide) (fun c18 => ?_) (fun c18 => ?_)
    · refine J_aload_n dX9_compared_34 rfl ?_
      refine J_bipush dX9_compared_35 (v := (62 : Int32)) rfl ?_
      refine J_callV_w (M' := m9_takes) (as := [_]) dX9_compared_37 lX9_106 sm9_takes sm9_takes_w jo_mPl_86 hci_X9 (by omega) rfl (Nat.le_of_ble_eq_true rfl) (c9_takes _ _) (fun r19 => ?_)
      refine J_if_eq dX9_compared_40 (tgt := 49) (by decide) (fun c20 => ?_) (fun c20 => ?_)
      · refine J_iconst dX9_compared_49 (v := (0 : Int32)) rfl ?_
        exact c9_compared_b50 k r0 r1 r2 r3 r4 r5 hr0 hr1 hr2 hr3 hr4 hr5 _ _
      · refine J_sipush dX9_compared_43 (v := (20004 : Int32)) rfl ?_
        refine J_goto dX9_compared_46 (tgt := 50) (by decide) ?_
        exact c9_compared_b50 k r0 r1 r2 r3 r4 r5 hr0 hr1 hr2 hr3 hr4 hr5 _ _
    · refine J_sipush dX9_compared_28 (v := (20003 : Int32)) rfl ?_
      refine J_goto dX9_compared_31 (tgt := 50) (by decide) ?_
      exact c9_compared_b50 k r0 r1 r2 r3 r4 r5 hr0 hr1 hr2 hr3 hr4 hr5 _ _
  · refine J_sipush dX9_compared_13 (v := (20002 : Int32)) rfl ?_
    refine J_goto dX9_compared_16 (tgt := 50) (by decide) ?_
    exact c9_compared_b50 k r0 r1 r2 r3 r4 r5 hr0 hr1 hr2 hr3 hr4 hr5 _ _
set_option maxRecDepth 20000 in
theorem c9_sum_b36 (k : Nat) (r0 : JMu → Option (JMu)) (r1 : JMu → Option (JMu)) (r2 : JMu → Option (JMu)) (r3 : JMu → Option (JMu)) (r4 : JMu → Option (JMu)) (r5 : JMu → Option (JMu)) (hr0 : ∀  (μ : JMu) (b : JMu), r0  μ = some b → JC m9_either (10 + k) mPl [.ref 86] μ (none, b)) (hr1 : ∀  (μ : JMu) (b : JMu), r1  μ = some b → JC m9_both (10 + k) mPl [.ref 86] μ (none, b)) (hr2 : ∀  (μ : JMu) (b : JMu), r2  μ = some b → JC m9_compared (10 + k) mPl [.ref 86] μ (none, b)) (hr3 : ∀  (μ : JMu) (b : JMu), r3  μ = some b → JC m9_sum (10 + k) mPl [.ref 86] μ (none, b)) (hr4 : ∀  (μ : JMu) (b : JMu), r4  μ = some b → JC m9_product (10 + k) mPl [.ref 86] μ (none, b)) (hr5 : ∀  (μ : JMu) (b : JMu), r5  μ = some b → JC m9_one (10 + k) mPl [.ref 86] μ (none, b)) (n : Nat) : ∀ (v1 : Int32) (μ : JMu), JF m9_sum (10 + k + 1) mPl (fun b : JMu => (none, b)) 36 [some (.ref 86), some (.int (v1))] [] μ (f9_sum_b36 r0 r1 r2 r3 r4 r5 n v1 μ) := by
  induction n with
  | zero => intros; exact JF_none
  | succ n ih =>
    intro v1 μ
    rw [f9_sum_b36]
    refine J_iload_n dX9_sum_36 rfl ?_
    refine J_if_le dX9_sum_37 (tgt := 84) (by decide) (fun c13 => ?_) (fun c13 => ?_)
    · exact J_vret dX9_sum_84 rfl rfl
    · refine J_aload_n dX9_sum_40 rfl ?_
      refine J_callV_v (M' := m9_product) (as := []) dX9_sum_41 lX9_120 sm9_product sm9_product_w jo_mPl_86 hci_X9 (by omega) rfl (Nat.le_of_ble_eq_true rfl) (hr4  _) (fun r14 => ?_)
      refine J_aload_n dX9_sum_44 rfl ?_
      refine J_iload_n dX9_sum_45 rfl ?_
      refine J_callV_v (M' := m9_codes) (as := [_]) dX9_sum_46 lX9_110 sm9_codes sm9_codes_w jo_mPl_86 hci_X9 (by omega) rfl (Nat.le_of_ble_eq_true rfl) (c9_codes _ _) (fun r15 => ?_)
      refine J_aload_n dX9_sum_49 rfl ?_
      refine J_bipush dX9_sum_50 (v := (43 : Int32)) rfl ?_
      refine J_callV_w (M' := m9_takes) (as := [_]) dX9_sum_52 lX9_106 sm9_takes sm9_takes_w jo_mPl_86 hci_X9 (by omega) rfl (Nat.le_of_ble_eq_true rfl) (c9_takes _ _) (fun r16 => ?_)
      refine J_if_eq dX9_sum_55 (tgt := 64) (by decide) (fun c17 => ?_) (fun c17 => ?_)
      · refine J_aload_n dX9_sum_64 rfl ?_
        refine J_bipush dX9_sum_65 (v := (45 : Int32)) rfl ?_
        refine J_callV_w (M' := m9_takes) (as := [_]) dX9_sum_67 lX9_106 sm9_takes sm9_takes_w jo_mPl_86 hci_X9 (by omega) rfl (Nat.le_of_ble_eq_true rfl) (c9_takes _ _) (fun r18 => ?_)
        refine J_if_eq dX9_sum_70 (tgt := 79) (by decide) (fun c19 => ?_) (fun c19 => ?_)
        · refine J_iconst dX9_sum_79 (v := (0 : Int32)) rfl ?_
          refine J_istore_n dX9_sum_80  (by decide) rfl ?_
          refine J_goto dX9_sum_81 (tgt := 36) (by decide) ?_
          exact ih _ _
        · refine J_sipush dX9_sum_73 (v := (20006 : Int32)) rfl ?_
          refine J_goto dX9_sum_76 (tgt := 80) (by decide) ?_
          refine J_istore_n dX9_sum_80  (by decide) rfl ?_
          refine J_goto dX9_sum_81 (tgt := 36) (by decide) ?_
          exact ih _ _
      · refine J_sipush dX9_sum_58 (v := (20005 : Int32)) rfl ?_
        refine J_goto dX9_sum_61 (tgt := 80) (by decide) ?_
        refine J_istore_n dX9_sum_80  (by decide) rfl ?_
        refine J_goto dX9_sum_81 (tgt := 36) (by decide) ?_
        exact ih _ _
set_option maxRecDepth 20000 in
theorem c9_sum_o (k : Nat) (r0 : JMu → Option (JMu)) (r1 : JMu → Option (JMu)) (r2 : JMu → Option (JMu)) (r3 : JMu → Option (JMu)) (r4 : JMu → Option (JMu)) (r5 : JMu → Option (JMu)) (hr0 : ∀  (μ : JMu) (b : JMu), r0  μ = some b → JC m9_either (10 + k) mPl [.ref 86] μ (none, b)) (hr1 : ∀  (μ : JMu) (b : JMu), r1  μ = some b → JC m9_both (10 + k) mPl [.ref 86] μ (none, b)) (hr2 : ∀  (μ : JMu) (b : JMu), r2  μ = some b → JC m9_compared (10 + k) mPl [.ref 86] μ (none, b)) (hr3 : ∀  (μ : JMu) (b : JMu), r3  μ = some b → JC m9_sum (10 + k) mPl [.ref 86] μ (none, b)) (hr4 : ∀  (μ : JMu) (b : JMu), r4  μ = some b → JC m9_product (10 + k) mPl [.ref 86] μ (none, b)) (hr5 : ∀  (μ : JMu) (b : JMu), r5  μ = some b → JC m9_one (10 + k) mPl [.ref 86] μ (none, b)) (μ : JMu) : ∀ b, f9_sum_o r0 r1 r2 r3 r4 r5  μ = some b → JC m9_sum (10 + k + 1) mPl [.ref 86] μ (none, b) := by
  refine JC_of (emb := (fun b : JMu => (none, b))) (L0 := [some (.ref 86), none]) sm9_sum (Nat.le_of_ble_eq_true rfl) rfl ?_
  unfold f9_sum_o
  refine J_aload_n dX9_sum_0 rfl ?_
  refine J_callV_v (M' := m9_product) (as := []) dX9_sum_1 lX9_120 sm9_product sm9_product_w jo_mPl_86 hci_X9 (by omega) rfl (Nat.le_of_ble_eq_true rfl) (hr4  _) (fun r20 => ?_)
  refine J_aload_n dX9_sum_4 rfl ?_
  refine J_bipush dX9_sum_5 (v := (43 : Int32)) rfl ?_
  refine J_callV_w (M' := m9_takes) (as := [_]) dX9_sum_7 lX9_106 sm9_takes sm9_takes_w jo_mPl_86 hci_X9 (by omega) rfl (Nat.le_of_ble_eq_true rfl) (c9_takes _ _) (fun r21 => ?_)
  refine J_if_eq dX9_sum_10 (tgt := 19) (by decide) (fun c22 => ?_) (fun c22 => ?_)
  · refine J_aload_n dX9_sum_19 rfl ?_
    refine J_bipush dX9_sum_20 (v := (45 : Int32)) rfl ?_
    refine J_callV_w (M' := m9_takes) (as := [_]) dX9_sum_22 lX9_106 sm9_takes sm9_takes_w jo_mPl_86 hci_X9 (by omega) rfl (Nat.le_of_ble_eq_true rfl) (c9_takes _ _) (fun r23 => ?_)
    refine J_if_eq dX9_sum_25 (tgt := 34) (by decide) (fun c24 => ?_) (fun c24 => ?_)
    · refine J_iconst dX9_sum_34 (v := (0 : Int32)) rfl ?_
      refine J_istore_n dX9_sum_35  (by decide) rfl ?_
      exact c9_sum_b36 k r0 r1 r2 r3 r4 r5 hr0 hr1 hr2 hr3 hr4 hr5 jN _ _
    · refine J_sipush dX9_sum_28 (v := (20006 : Int32)) rfl ?_
      refine J_goto dX9_sum_31 (tgt := 35) (by decide) ?_
      refine J_istore_n dX9_sum_35  (by decide) rfl ?_
      exact c9_sum_b36 k r0 r1 r2 r3 r4 r5 hr0 hr1 hr2 hr3 hr4 hr5 jN _ _
  · refine J_sipush dX9_sum_13 (v := (20005 : Int32)) rfl ?_
    refine J_goto dX9_sum_16 (tgt := 35) (by decide) ?_
    refine J_istore_n dX9_sum_35  (by decide) rfl ?_
    exact c9_sum_b36 k r0 r1 r2 r3 r4 r5 hr0 hr1 hr2 hr3 hr4 hr5 jN _ _
set_option maxRecDepth 20000 in
theorem c9_product_b51 (k : Nat) (r0 : JMu → Option (JMu)) (r1 : JMu → Option (JMu)) (r2 : JMu → Option (JMu)) (r3 : JMu → Option (JMu)) (r4 : JMu → Option (JMu)) (r5 : JMu → Option (JMu)) (hr0 : ∀  (μ : JMu) (b : JMu), r0  μ = some b → JC m9_either (10 + k) mPl [.ref 86] μ (none, b)) (hr1 : ∀  (μ : JMu) (b : JMu), r1  μ = some b → JC m9_both (10 + k) mPl [.ref 86] μ (none, b)) (hr2 : ∀  (μ : JMu) (b : JMu), r2  μ = some b → JC m9_compared (10 + k) mPl [.ref 86] μ (none, b)) (hr3 : ∀  (μ : JMu) (b : JMu), r3  μ = some b → JC m9_sum (10 + k) mPl [.ref 86] μ (none, b)) (hr4 : ∀  (μ : JMu) (b : JMu), r4  μ = some b → JC m9_product (10 + k) mPl [.ref 86] μ (none, b)) (hr5 : ∀  (μ : JMu) (b : JMu), r5  μ = some b → JC m9_one (10 + k) mPl [.ref 86] μ (none, b)) (n : Nat) : ∀ (v1 : Int32) (μ : JMu), JF m9_product (10 + k + 1) mPl (fun b : JMu => (none, b)) 51 [some (.ref 86), some (.int (v1))] [] μ (f9_product_b51 r0 r1 r2 r3 r4 r5 n v1 μ) := by
  induction n with
  | zero => intros; exact JF_none
  | succ n ih =>
    intro v1 μ
    rw [f9_product_b51]
    refine J_iload_n dX9_product_51 rfl ?_
    refine J_if_le dX9_product_52 (tgt := 114) (by decide) (fun c17 => ?_) (fun c17 => ?_)
    · exact J_vret dX9_product_114 rfl rfl
    · refine J_aload_n dX9_product_55 rfl ?_
      refine J_callV_v (M' := m9_one) (as := []) dX9_product_56 lX9_123 sm9_one sm9_one_w jo_mPl_86 hci_X9 (by omega) rfl (Nat.le_of_ble_eq_true rfl) (hr5  _) (fun r18 => ?_)
      refine J_aload_n dX9_product_59 rfl ?_
      refine J_iload_n dX9_product_60 rfl ?_
      refine J_callV_v (M' := m9_codes) (as := [_]) dX9_product_61 lX9_110 sm9_codes sm9_codes_w jo_mPl_86 hci_X9 (by omega) rfl (Nat.le_of_ble_eq_true rfl) (c9_codes _ _) (fun r19 => ?_)
      refine J_aload_n dX9_product_64 rfl ?_
      refine J_bipush dX9_product_65 (v := (42 : Int32)) rfl ?_
      refine J_callV_w (M' := m9_takes) (as := [_]) dX9_product_67 lX9_106 sm9_takes sm9_takes_w jo_mPl_86 hci_X9 (by omega) rfl (Nat.le_of_ble_eq_true rfl) (c9_takes _ _) (fun r20 => ?_)
      refine J_if_eq dX9_product_70 (tgt := 79) (by decide) (fun c21 => ?_) (fun c21 => ?_)
      · refine J_aload_n dX9_product_79 rfl ?_
        refine J_bipush dX9_product_80 (v := (47 : Int32)) rfl ?_
        refine J_callV_w (M' := m9_takes) (as := [_]) dX9_product_82 lX9_106 sm9_takes sm9_takes_w jo_mPl_86 hci_X9 (by omega) rfl (Nat.le_of_ble_eq_true rfl) (c9_takes _ _) (fun r22 => ?_)
        refine J_if_eq dX9_product_85 (tgt := 94) (by decide) (fun c23 => ?_) (fun c23 => ?_)
        · refine J_aload_n dX9_product_94 rfl ?_
          refine J_bipush dX9_product_95 (v := (37 : Int32)) rfl ?_
          refine J_callV_w (M' := m9_takes) (as := [_]) dX9_product_97 lX9_106 sm9_takes sm9_takes_w jo_mPl_86 hci_X9 (by omega) rfl (Nat.le_of_ble_eq_true rfl) (c9_takes _ _) (fun r24 => ?_)
          refine J_if_eq dX9_product_100 (tgt := 109) (by decide) (fun c25 => ?_) (fun c25 => ?_)
          · refine J_iconst dX9_product_109 (v := (0 : Int32)) rfl ?_
            refine J_istore_n dX9_product_110  (by decide) rfl ?_
            refine J_goto dX9_product_111 (tgt := 51) (by decide) ?_
            exact ih _ _
          · refine J_sipush dX9_product_103 (v := (20009 : Int32)) rfl ?_
            refine J_goto dX9_product_106 (tgt := 110) (by decide) ?_
            refine J_istore_n dX9_product_110  (by decide) rfl ?_
            refine J_goto dX9_product_111 (tgt := 51) (by decide) ?_
            exact ih _ _
        · refine J_sipush dX9_product_88 (v := (20008 : Int32)) rfl ?_
          refine J_goto dX9_product_91 (tgt := 110) (by decide) ?_
          refine J_istore_n dX9_product_110  (by decide) rfl ?_
          refine J_goto dX9_product_111 (tgt := 51) (by decide) ?_
          exact ih _ _
      · refine J_sipush dX9_product_73 (v := (20007 : Int32)) rfl ?_
        refine J_goto dX9_product_76 (tgt := 110) (by decide) ?_
        refine J_istore_n dX9_product_110  (by decide) rfl ?_
        refine J_goto dX9_product_111 (tgt := 51) (by decide) ?_
        exact ih _ _
set_option maxRecDepth 20000 in
theorem c9_product_o (k : Nat) (r0 : JMu → Option (JMu)) (r1 : JMu → Option (JMu)) (r2 : JMu → Option (JMu)) (r3 : JMu → Option (JMu)) (r4 : JMu → Option (JMu)) (r5 : JMu → Option (JMu)) (hr0 : ∀  (μ : JMu) (b : JMu), r0  μ = some b → JC m9_either (10 + k) mPl [.ref 86] μ (none, b)) (hr1 : ∀  (μ : JMu) (b : JMu), r1  μ = some b → JC m9_both (10 + k) mPl [.ref 86] μ (none, b)) (hr2 : ∀  (μ : JMu) (b : JMu), r2  μ = some b → JC m9_compared (10 + k) mPl [.ref 86] μ (none, b)) (hr3 : ∀  (μ : JMu) (b : JMu), r3  μ = some b → JC m9_sum (10 + k) mPl [.ref 86] μ (none, b)) (hr4 : ∀  (μ : JMu) (b : JMu), r4  μ = some b → JC m9_product (10 + k) mPl [.ref 86] μ (none, b)) (hr5 : ∀  (μ : JMu) (b : JMu), r5  μ = some b → JC m9_one (10 + k) mPl [.ref 86] μ (none, b)) (μ : JMu) : ∀ b, f9_product_o r0 r1 r2 r3 r4 r5  μ = some b → JC m9_product (10 + k + 1) mPl [.ref 86] μ (none, b) := by
  refine JC_of (emb := (fun b : JMu => (none, b))) (L0 := [some (.ref 86), none]) sm9_product (Nat.le_of_ble_eq_true rfl) rfl ?_
  unfold f9_product_o
  refine J_aload_n dX9_product_0 rfl ?_
  refine J_callV_v (M' := m9_one) (as := []) dX9_product_1 lX9_123 sm9_one sm9_one_w jo_mPl_86 hci_X9 (by omega) rfl (Nat.le_of_ble_eq_true rfl) (hr5  _) (fun r26 => ?_)
  refine J_aload_n dX9_product_4 rfl ?_
  refine J_bipush dX9_product_5 (v := (42 : Int32)) rfl ?_
  refine J_callV_w (M' := m9_takes) (as := [_]) dX9_product_7 lX9_106 sm9_takes sm9_takes_w jo_mPl_86 hci_X9 (by omega) rfl (Nat.le_of_ble_eq_true rfl) (c9_takes _ _) (fun r27 => ?_)
  refine J_if_eq dX9_product_10 (tgt := 19) (by decide) (fun c28 => ?_) (fun c28 => ?_)
  · refine J_aload_n dX9_product_19 rfl ?_
    refine J_bipush dX9_product_20 (v := (47 : Int32)) rfl ?_
    refine J_callV_w (M' := m9_takes) (as := [_]) dX9_product_22 lX9_106 sm9_takes sm9_takes_w jo_mPl_86 hci_X9 (by omega) rfl (Nat.le_of_ble_eq_true rfl) (c9_takes _ _) (fun r29 => ?_)
    refine J_if_eq dX9_product_25 (tgt := 34) (by decide) (fun c30 => ?_) (fun c30 => ?_)
    · refine J_aload_n dX9_product_34 rfl ?_
      refine J_bipush dX9_product_35 (v := (37 : Int32)) rfl ?_
      refine J_callV_w (M' := m9_takes) (as := [_]) dX9_product_37 lX9_106 sm9_takes sm9_takes_w jo_mPl_86 hci_X9 (by omega) rfl (Nat.le_of_ble_eq_true rfl) (c9_takes _ _) (fun r31 => ?_)
      refine J_if_eq dX9_product_40 (tgt := 49) (by decide) (fun c32 => ?_) (fun c32 => ?_)
      · refine J_iconst dX9_product_49 (v := (0 : Int32)) rfl ?_
        refine J_istore_n dX9_product_50  (by decide) rfl ?_
        exact c9_product_b51 k r0 r1 r2 r3 r4 r5 hr0 hr1 hr2 hr3 hr4 hr5 jN _ _
      · refine J_sipush dX9_product_43 (v := (20009 : Int32)) rfl ?_
        refine J_goto dX9_product_46 (tgt := 50) (by decide) ?_
        refine J_istore_n dX9_product_50  (by decide) rfl ?_
        exact c9_product_b51 k r0 r1 r2 r3 r4 r5 hr0 hr1 hr2 hr3 hr4 hr5 jN _ _
    · refine J_sipush dX9_product_28 (v := (20008 : Int32)) rfl ?_
      refine J_goto dX9_product_31 (tgt := 50) (by decide) ?_
      refine J_istore_n dX9_product_50  (by decide) rfl ?_
      exact c9_product_b51 k r0 r1 r2 r3 r4 r5 hr0 hr1 hr2 hr3 hr4 hr5 jN _ _
  · refine J_sipush dX9_product_13 (v := (20007 : Int32)) rfl ?_
    refine J_goto dX9_product_16 (tgt := 50) (by decide) ?_
    refine J_istore_n dX9_product_50  (by decide) rfl ?_
    exact c9_product_b51 k r0 r1 r2 r3 r4 r5 hr0 hr1 hr2 hr3 hr4 hr5 jN _ _
set_option maxRecDepth 20000 in
theorem c9_one_b103 (k : Nat) (r0 : JMu → Option (JMu)) (r1 : JMu → Option (JMu)) (r2 : JMu → Option (JMu)) (r3 : JMu → Option (JMu)) (r4 : JMu → Option (JMu)) (r5 : JMu → Option (JMu)) (hr0 : ∀  (μ : JMu) (b : JMu), r0  μ = some b → JC m9_either (10 + k) mPl [.ref 86] μ (none, b)) (hr1 : ∀  (μ : JMu) (b : JMu), r1  μ = some b → JC m9_both (10 + k) mPl [.ref 86] μ (none, b)) (hr2 : ∀  (μ : JMu) (b : JMu), r2  μ = some b → JC m9_compared (10 + k) mPl [.ref 86] μ (none, b)) (hr3 : ∀  (μ : JMu) (b : JMu), r3  μ = some b → JC m9_sum (10 + k) mPl [.ref 86] μ (none, b)) (hr4 : ∀  (μ : JMu) (b : JMu), r4  μ = some b → JC m9_product (10 + k) mPl [.ref 86] μ (none, b)) (hr5 : ∀  (μ : JMu) (b : JMu), r5  μ = some b → JC m9_one (10 + k) mPl [.ref 86] μ (none, b)) (μ : JMu) : JF m9_one (10 + k + 1) mPl (fun b : JMu => (none, b)) 103 [some (.ref 86), none, none, none] [] μ (f9_one_b103 r0 r1 r2 r3 r4 r5  μ) := by
  unfold f9_one_b103
  refine J_aload_n dX9_one_103 rfl ?_
  refine J_dup dX9_one_104 rfl ?_
  refine J_getI dX9_one_105 wX9_136 rfl jo_mPl_86 ?_
  refine J_iconst dX9_one_108 (v := (1 : Int32)) rfl ?_
  refine J_isub dX9_one_109 ?_
  refine J_putI dX9_one_110 wX9_136 rfl jo_mPl_86 ?_
  refine J_goto dX9_one_113 (tgt := 247) (by decide) ?_
  exact J_vret dX9_one_247 rfl rfl
set_option maxRecDepth 20000 in
theorem c9_one_b100 (k : Nat) (r0 : JMu → Option (JMu)) (r1 : JMu → Option (JMu)) (r2 : JMu → Option (JMu)) (r3 : JMu → Option (JMu)) (r4 : JMu → Option (JMu)) (r5 : JMu → Option (JMu)) (hr0 : ∀  (μ : JMu) (b : JMu), r0  μ = some b → JC m9_either (10 + k) mPl [.ref 86] μ (none, b)) (hr1 : ∀  (μ : JMu) (b : JMu), r1  μ = some b → JC m9_both (10 + k) mPl [.ref 86] μ (none, b)) (hr2 : ∀  (μ : JMu) (b : JMu), r2  μ = some b → JC m9_compared (10 + k) mPl [.ref 86] μ (none, b)) (hr3 : ∀  (μ : JMu) (b : JMu), r3  μ = some b → JC m9_sum (10 + k) mPl [.ref 86] μ (none, b)) (hr4 : ∀  (μ : JMu) (b : JMu), r4  μ = some b → JC m9_product (10 + k) mPl [.ref 86] μ (none, b)) (hr5 : ∀  (μ : JMu) (b : JMu), r5  μ = some b → JC m9_one (10 + k) mPl [.ref 86] μ (none, b)) (s0 : Int32) (μ : JMu) : JF m9_one (10 + k + 1) mPl (fun b : JMu => (none, b)) 100 [some (.ref 86), none, none, none] [.int (s0), .ref 86] μ (f9_one_b100 r0 r1 r2 r3 r4 r5 s0 μ) := by
  unfold f9_one_b100
  refine JF_chk (fun c29 => ?_)
  refine J_putZ dX9_one_100 wX9_88 rfl jo_mPl_86 c29 ?_
  exact c9_one_b103 k r0 r1 r2 r3 r4 r5 hr0 hr1 hr2 hr3 hr4 hr5  _
set_option maxRecDepth 20000 in
theorem c9_one_b31 (k : Nat) (r0 : JMu → Option (JMu)) (r1 : JMu → Option (JMu)) (r2 : JMu → Option (JMu)) (r3 : JMu → Option (JMu)) (r4 : JMu → Option (JMu)) (r5 : JMu → Option (JMu)) (hr0 : ∀  (μ : JMu) (b : JMu), r0  μ = some b → JC m9_either (10 + k) mPl [.ref 86] μ (none, b)) (hr1 : ∀  (μ : JMu) (b : JMu), r1  μ = some b → JC m9_both (10 + k) mPl [.ref 86] μ (none, b)) (hr2 : ∀  (μ : JMu) (b : JMu), r2  μ = some b → JC m9_compared (10 + k) mPl [.ref 86] μ (none, b)) (hr3 : ∀  (μ : JMu) (b : JMu), r3  μ = some b → JC m9_sum (10 + k) mPl [.ref 86] μ (none, b)) (hr4 : ∀  (μ : JMu) (b : JMu), r4  μ = some b → JC m9_product (10 + k) mPl [.ref 86] μ (none, b)) (hr5 : ∀  (μ : JMu) (b : JMu), r5  μ = some b → JC m9_one (10 + k) mPl [.ref 86] μ (none, b)) (v1 : Int32) (s0 : Int32) (μ : JMu) : JF m9_one (10 + k + 1) mPl (fun b : JMu => (none, b)) 31 [some (.ref 86), some (.int (v1)), none, none] [.int (s0), .ref 86] μ (f9_one_b31 r0 r1 r2 r3 r4 r5 v1 s0 μ) := by
  unfold f9_one_b31
  refine JF_chk (fun c37 => ?_)
  refine J_putZ dX9_one_31 wX9_88 rfl jo_mPl_86 c37 ?_
  refine J_aload_n dX9_one_34 rfl ?_
  refine J_getI dX9_one_35 wX9_88 rfl jo_mPl_86 ?_
  refine J_if_ne dX9_one_38 (tgt := 247) (by decide) (fun c30 => ?_) (fun c30 => ?_)
  · refine J_aload_n dX9_one_41 rfl ?_
    refine J_dup dX9_one_42 rfl ?_
    refine J_getI dX9_one_43 wX9_136 rfl jo_mPl_86 ?_
    refine J_iconst dX9_one_46 (v := (1 : Int32)) rfl ?_
    refine J_iadd dX9_one_47 ?_
    refine J_putI dX9_one_48 wX9_136 rfl jo_mPl_86 ?_
    refine J_aload_n dX9_one_51 rfl ?_
    refine J_dup dX9_one_52 rfl ?_
    refine J_getI dX9_one_53 wX9_92 rfl jo_mPl_86 ?_
    refine J_iconst dX9_one_56 (v := (1 : Int32)) rfl ?_
    refine J_iadd dX9_one_57 ?_
    refine J_putI dX9_one_58 wX9_92 rfl jo_mPl_86 ?_
    refine J_iload_n dX9_one_61 rfl ?_
    refine J_bipush dX9_one_62 (v := (33 : Int32)) rfl ?_
    refine J_icmp_ne dX9_one_64 (tgt := 81) (by decide) (fun c31 => ?_) (fun c31 => ?_)
    · refine J_aload_n dX9_one_67 rfl ?_
      refine J_callV_v (M' := m9_one) (as := []) dX9_one_68 lX9_123 sm9_one sm9_one_w jo_mPl_86 hci_X9 (by omega) rfl (Nat.le_of_ble_eq_true rfl) (hr5  _) (fun r35 => ?_)
      refine J_aload_n dX9_one_71 rfl ?_
      refine J_sipush dX9_one_72 (v := (20010 : Int32)) rfl ?_
      refine J_callV_v (M' := m9_codes) (as := [_]) dX9_one_75 lX9_110 sm9_codes sm9_codes_w jo_mPl_86 hci_X9 (by omega) rfl (Nat.le_of_ble_eq_true rfl) (c9_codes _ _) (fun r36 => ?_)
      refine J_goto dX9_one_78 (tgt := 103) (by decide) ?_
      refine JF_drop [1] ?_
      exact c9_one_b103 k r0 r1 r2 r3 r4 r5 hr0 hr1 hr2 hr3 hr4 hr5  _
    · refine J_aload_n dX9_one_81 rfl ?_
      refine J_callV_v (M' := m9_either) (as := []) dX9_one_82 lX9_139 sm9_either sm9_either_w jo_mPl_86 hci_X9 (by omega) rfl (Nat.le_of_ble_eq_true rfl) (hr0  _) (fun r32 => ?_)
      refine J_aload_n dX9_one_85 rfl ?_
      refine J_aload_n dX9_one_86 rfl ?_
      refine J_bipush dX9_one_87 (v := (41 : Int32)) rfl ?_
      refine J_callV_w (M' := m9_takes) (as := [_]) dX9_one_89 lX9_106 sm9_takes sm9_takes_w jo_mPl_86 hci_X9 (by omega) rfl (Nat.le_of_ble_eq_true rfl) (c9_takes _ _) (fun r33 => ?_)
      refine J_if_ne dX9_one_92 (tgt := 99) (by decide) (fun c34 => ?_) (fun c34 => ?_)
      · refine J_iconst dX9_one_95 (v := (1 : Int32)) rfl ?_
        refine J_goto dX9_one_96 (tgt := 100) (by decide) ?_
        refine JF_drop [1] ?_
        exact c9_one_b100 k r0 r1 r2 r3 r4 r5 hr0 hr1 hr2 hr3 hr4 hr5 _ _
      · refine J_iconst dX9_one_99 (v := (0 : Int32)) rfl ?_
        refine JF_drop [1] ?_
        exact c9_one_b100 k r0 r1 r2 r3 r4 r5 hr0 hr1 hr2 hr3 hr4 hr5 _ _
  · exact J_vret dX9_one_247 rfl rfl
set_option maxRecDepth 20000 in
theorem c9_one_b17 (k : Nat) (r0 : JMu → Option (JMu)) (r1 : JMu → Option (JMu)) (r2 : JMu → Option (JMu)) (r3 : JMu → Option (JMu)) (r4 : JMu → Option (JMu)) (r5 : JMu → Option (JMu)) (hr0 : ∀  (μ : JMu) (b : JMu), r0  μ = some b → JC m9_either (10 + k) mPl [.ref 86] μ (none, b)) (hr1 : ∀  (μ : JMu) (b : JMu), r1  μ = some b → JC m9_both (10 + k) mPl [.ref 86] μ (none, b)) (hr2 : ∀  (μ : JMu) (b : JMu), r2  μ = some b → JC m9_compared (10 + k) mPl [.ref 86] μ (none, b)) (hr3 : ∀  (μ : JMu) (b : JMu), r3  μ = some b → JC m9_sum (10 + k) mPl [.ref 86] μ (none, b)) (hr4 : ∀  (μ : JMu) (b : JMu), r4  μ = some b → JC m9_product (10 + k) mPl [.ref 86] μ (none, b)) (hr5 : ∀  (μ : JMu) (b : JMu), r5  μ = some b → JC m9_one (10 + k) mPl [.ref 86] μ (none, b)) (v1 : Int32) (μ : JMu) : JF m9_one (10 + k + 1) mPl (fun b : JMu => (none, b)) 17 [some (.ref 86), some (.int (v1)), none, none] [] μ (f9_one_b17 r0 r1 r2 r3 r4 r5 v1 μ) := by
  unfold f9_one_b17
  refine J_aload_n dX9_one_17 rfl ?_
  refine J_aload_n dX9_one_18 rfl ?_
  refine J_getI dX9_one_19 wX9_136 rfl jo_mPl_86 ?_
  refine J_iconst dX9_one_22 (v := (5 : Int32)) rfl ?_
  refine J_icmp_ne dX9_one_23 (tgt := 30) (by decide) (fun c38 => ?_) (fun c38 => ?_)
  · refine J_iconst dX9_one_26 (v := (1 : Int32)) rfl ?_
    refine J_goto dX9_one_27 (tgt := 31) (by decide) ?_
    exact c9_one_b31 k r0 r1 r2 r3 r4 r5 hr0 hr1 hr2 hr3 hr4 hr5 _ _ _
  · refine J_iconst dX9_one_30 (v := (0 : Int32)) rfl ?_
    exact c9_one_b31 k r0 r1 r2 r3 r4 r5 hr0 hr1 hr2 hr3 hr4 hr5 _ _ _
set_option maxRecDepth 20000 in
theorem c9_one_b179 (k : Nat) (r0 : JMu → Option (JMu)) (r1 : JMu → Option (JMu)) (r2 : JMu → Option (JMu)) (r3 : JMu → Option (JMu)) (r4 : JMu → Option (JMu)) (r5 : JMu → Option (JMu)) (hr0 : ∀  (μ : JMu) (b : JMu), r0  μ = some b → JC m9_either (10 + k) mPl [.ref 86] μ (none, b)) (hr1 : ∀  (μ : JMu) (b : JMu), r1  μ = some b → JC m9_both (10 + k) mPl [.ref 86] μ (none, b)) (hr2 : ∀  (μ : JMu) (b : JMu), r2  μ = some b → JC m9_compared (10 + k) mPl [.ref 86] μ (none, b)) (hr3 : ∀  (μ : JMu) (b : JMu), r3  μ = some b → JC m9_sum (10 + k) mPl [.ref 86] μ (none, b)) (hr4 : ∀  (μ : JMu) (b : JMu), r4  μ = some b → JC m9_product (10 + k) mPl [.ref 86] μ (none, b)) (hr5 : ∀  (μ : JMu) (b : JMu), r5  μ = some b → JC m9_one (10 + k) mPl [.ref 86] μ (none, b)) (v2 : Int32) (μ : JMu) : JF m9_one (10 + k + 1) mPl (fun b : JMu => (none, b)) 179 [some (.ref 86), none, some (.int (v2)), none] [] μ (f9_one_b179 r0 r1 r2 r3 r4 r5 v2 μ) := by
  unfold f9_one_b179
  refine J_aload_n dX9_one_179 rfl ?_
  refine J_iload_n dX9_one_180 rfl ?_
  refine J_callV_v (M' := m9_codes) (as := [_]) dX9_one_181 lX9_110 sm9_codes sm9_codes_w jo_mPl_86 hci_X9 (by omega) rfl (Nat.le_of_ble_eq_true rfl) (c9_codes _ _) (fun r39 => ?_)
  refine J_goto dX9_one_184 (tgt := 247) (by decide) ?_
  exact J_vret dX9_one_247 rfl rfl
set_option maxRecDepth 20000 in
theorem c9_one_b131 (k : Nat) (r0 : JMu → Option (JMu)) (r1 : JMu → Option (JMu)) (r2 : JMu → Option (JMu)) (r3 : JMu → Option (JMu)) (r4 : JMu → Option (JMu)) (r5 : JMu → Option (JMu)) (hr0 : ∀  (μ : JMu) (b : JMu), r0  μ = some b → JC m9_either (10 + k) mPl [.ref 86] μ (none, b)) (hr1 : ∀  (μ : JMu) (b : JMu), r1  μ = some b → JC m9_both (10 + k) mPl [.ref 86] μ (none, b)) (hr2 : ∀  (μ : JMu) (b : JMu), r2  μ = some b → JC m9_compared (10 + k) mPl [.ref 86] μ (none, b)) (hr3 : ∀  (μ : JMu) (b : JMu), r3  μ = some b → JC m9_sum (10 + k) mPl [.ref 86] μ (none, b)) (hr4 : ∀  (μ : JMu) (b : JMu), r4  μ = some b → JC m9_product (10 + k) mPl [.ref 86] μ (none, b)) (hr5 : ∀  (μ : JMu) (b : JMu), r5  μ = some b → JC m9_one (10 + k) mPl [.ref 86] μ (none, b)) (n : Nat) : ∀ (v2 : Int32) (v3 : Int32) (μ : JMu), JF m9_one (10 + k + 1) mPl (fun b : JMu => (none, b)) 131 [some (.ref 86), none, some (.int (v2)), some (.int (v3))] [] μ (f9_one_b131 r0 r1 r2 r3 r4 r5 n v2 v3 μ) := by
  induction n with
  | zero => intros; exact JF_none
  | succ n ih =>
    intro v2 v3 μ
    rw [f9_one_b131]
    refine J_iload_n dX9_one_131 rfl ?_
    refine J_iconst dX9_one_132 (v := (4 : Int32)) rfl ?_
    refine J_icmp_ge dX9_one_133 (tgt := 179) (by decide) (fun c40 => ?_) (fun c40 => ?_)
    · refine JF_drop [3] ?_
      exact c9_one_b179 k r0 r1 r2 r3 r4 r5 hr0 hr1 hr2 hr3 hr4 hr5 _ _
    · refine J_aload_n dX9_one_136 rfl ?_
      refine J_callV_i (M' := m9_here) (as := []) dX9_one_137 lX9_96 sm9_here sm9_here_w jo_mPl_86 hci_X9 (by omega) rfl (Nat.le_of_ble_eq_true rfl) (c9_here  _) (fun r41 => ?_)
      refine J_bipush dX9_one_140 (v := (48 : Int32)) rfl ?_
      refine J_bipush dX9_one_142 (v := (57 : Int32)) rfl ?_
      refine J_callS_i (M' := m9_within) (as := [_, _, _]) dX9_one_144 lX9_76 sm9_within sm9_within_w (by omega) rfl (Nat.le_of_ble_eq_true rfl) (c9_within _ _ _ _) (fun r42 => ?_)
      refine J_if_eq dX9_one_147 (tgt := 179) (by decide) (fun c43 => ?_) (fun c43 => ?_)
      · refine JF_drop [3] ?_
        exact c9_one_b179 k r0 r1 r2 r3 r4 r5 hr0 hr1 hr2 hr3 hr4 hr5 _ _
      · refine J_bipush dX9_one_150 (v := (10 : Int32)) rfl ?_
        refine J_iload_n dX9_one_152 rfl ?_
        refine J_imul dX9_one_153 ?_
        refine J_aload_n dX9_one_154 rfl ?_
        refine J_callV_i (M' := m9_here) (as := []) dX9_one_155 lX9_96 sm9_here sm9_here_w jo_mPl_86 hci_X9 (by omega) rfl (Nat.le_of_ble_eq_true rfl) (c9_here  _) (fun r44 => ?_)
        refine J_iadd dX9_one_158 ?_
        refine J_bipush dX9_one_159 (v := (48 : Int32)) rfl ?_
        refine J_isub dX9_one_161 ?_
        refine J_istore_n dX9_one_162  (by decide) rfl ?_
        refine J_aload_n dX9_one_163 rfl ?_
        refine J_dup dX9_one_164 rfl ?_
        refine J_getI dX9_one_165 wX9_92 rfl jo_mPl_86 ?_
        refine J_iconst dX9_one_168 (v := (1 : Int32)) rfl ?_
        refine J_iadd dX9_one_169 ?_
        refine J_putI dX9_one_170 wX9_92 rfl jo_mPl_86 ?_
        refine J_iinc dX9_one_173 rfl (c0 := (1 : Int32)) rfl (by decide) rfl ?_
        refine J_goto dX9_one_176 (tgt := 131) (by decide) ?_
        exact ih _ _ _
set_option maxRecDepth 20000 in
theorem c9_one_b218 (k : Nat) (r0 : JMu → Option (JMu)) (r1 : JMu → Option (JMu)) (r2 : JMu → Option (JMu)) (r3 : JMu → Option (JMu)) (r4 : JMu → Option (JMu)) (r5 : JMu → Option (JMu)) (hr0 : ∀  (μ : JMu) (b : JMu), r0  μ = some b → JC m9_either (10 + k) mPl [.ref 86] μ (none, b)) (hr1 : ∀  (μ : JMu) (b : JMu), r1  μ = some b → JC m9_both (10 + k) mPl [.ref 86] μ (none, b)) (hr2 : ∀  (μ : JMu) (b : JMu), r2  μ = some b → JC m9_compared (10 + k) mPl [.ref 86] μ (none, b)) (hr3 : ∀  (μ : JMu) (b : JMu), r3  μ = some b → JC m9_sum (10 + k) mPl [.ref 86] μ (none, b)) (hr4 : ∀  (μ : JMu) (b : JMu), r4  μ = some b → JC m9_product (10 + k) mPl [.ref 86] μ (none, b)) (hr5 : ∀  (μ : JMu) (b : JMu), r5  μ = some b → JC m9_one (10 + k) mPl [.ref 86] μ (none, b)) (v2 : Int32) (s0 : Int32) (μ : JMu) : JF m9_one (10 + k + 1) mPl (fun b : JMu => (none, b)) 218 [some (.ref 86), none, some (.int (v2)), none] [.int (s0), .ref 86] μ (f9_one_b218 r0 r1 r2 r3 r4 r5 v2 s0 μ) := by
  unfold f9_one_b218
  refine JF_chk (fun c47 => ?_)
  refine J_putZ dX9_one_218 wX9_88 rfl jo_mPl_86 c47 ?_
  refine J_aload_n dX9_one_221 rfl ?_
  refine J_getI dX9_one_222 wX9_88 rfl jo_mPl_86 ?_
  refine J_if_ne dX9_one_225 (tgt := 247) (by decide) (fun c45 => ?_) (fun c45 => ?_)
  · refine J_aload_n dX9_one_228 rfl ?_
    refine J_sipush dX9_one_229 (v := (10000 : Int32)) rfl ?_
    refine J_iload_n dX9_one_232 rfl ?_
    refine J_iadd dX9_one_233 ?_
    refine J_callV_v (M' := m9_codes) (as := [_]) dX9_one_234 lX9_110 sm9_codes sm9_codes_w jo_mPl_86 hci_X9 (by omega) rfl (Nat.le_of_ble_eq_true rfl) (c9_codes _ _) (fun r46 => ?_)
    refine J_aload_n dX9_one_237 rfl ?_
    refine J_dup dX9_one_238 rfl ?_
    refine J_getI dX9_one_239 wX9_92 rfl jo_mPl_86 ?_
    refine J_iconst dX9_one_242 (v := (1 : Int32)) rfl ?_
    refine J_iadd dX9_one_243 ?_
    refine J_putI dX9_one_244 wX9_92 rfl jo_mPl_86 ?_
    exact J_vret dX9_one_247 rfl rfl
  · exact J_vret dX9_one_247 rfl rfl
set_option maxRecDepth 20000 in
theorem c9_one_b213 (k : Nat) (r0 : JMu → Option (JMu)) (r1 : JMu → Option (JMu)) (r2 : JMu → Option (JMu)) (r3 : JMu → Option (JMu)) (r4 : JMu → Option (JMu)) (r5 : JMu → Option (JMu)) (hr0 : ∀  (μ : JMu) (b : JMu), r0  μ = some b → JC m9_either (10 + k) mPl [.ref 86] μ (none, b)) (hr1 : ∀  (μ : JMu) (b : JMu), r1  μ = some b → JC m9_both (10 + k) mPl [.ref 86] μ (none, b)) (hr2 : ∀  (μ : JMu) (b : JMu), r2  μ = some b → JC m9_compared (10 + k) mPl [.ref 86] μ (none, b)) (hr3 : ∀  (μ : JMu) (b : JMu), r3  μ = some b → JC m9_sum (10 + k) mPl [.ref 86] μ (none, b)) (hr4 : ∀  (μ : JMu) (b : JMu), r4  μ = some b → JC m9_product (10 + k) mPl [.ref 86] μ (none, b)) (hr5 : ∀  (μ : JMu) (b : JMu), r5  μ = some b → JC m9_one (10 + k) mPl [.ref 86] μ (none, b)) (v2 : Int32) (μ : JMu) : JF m9_one (10 + k + 1) mPl (fun b : JMu => (none, b)) 213 [some (.ref 86), none, some (.int (v2)), none] [.ref 86] μ (f9_one_b213 r0 r1 r2 r3 r4 r5 v2 μ) := by
  unfold f9_one_b213
  refine J_iconst dX9_one_213 (v := (1 : Int32)) rfl ?_
  refine J_goto dX9_one_214 (tgt := 218) (by decide) ?_
  exact c9_one_b218 k r0 r1 r2 r3 r4 r5 hr0 hr1 hr2 hr3 hr4 hr5 _ _ _
set_option maxRecDepth 20000 in
theorem c9_one_b200 (k : Nat) (r0 : JMu → Option (JMu)) (r1 : JMu → Option (JMu)) (r2 : JMu → Option (JMu)) (r3 : JMu → Option (JMu)) (r4 : JMu → Option (JMu)) (r5 : JMu → Option (JMu)) (hr0 : ∀  (μ : JMu) (b : JMu), r0  μ = some b → JC m9_either (10 + k) mPl [.ref 86] μ (none, b)) (hr1 : ∀  (μ : JMu) (b : JMu), r1  μ = some b → JC m9_both (10 + k) mPl [.ref 86] μ (none, b)) (hr2 : ∀  (μ : JMu) (b : JMu), r2  μ = some b → JC m9_compared (10 + k) mPl [.ref 86] μ (none, b)) (hr3 : ∀  (μ : JMu) (b : JMu), r3  μ = some b → JC m9_sum (10 + k) mPl [.ref 86] μ (none, b)) (hr4 : ∀  (μ : JMu) (b : JMu), r4  μ = some b → JC m9_product (10 + k) mPl [.ref 86] μ (none, b)) (hr5 : ∀  (μ : JMu) (b : JMu), r5  μ = some b → JC m9_one (10 + k) mPl [.ref 86] μ (none, b)) (s0 : Int32) (μ : JMu) : JF m9_one (10 + k + 1) mPl (fun b : JMu => (none, b)) 200 [some (.ref 86), none, none, none] [.int (s0)] μ (f9_one_b200 r0 r1 r2 r3 r4 r5 s0 μ) := by
  unfold f9_one_b200
  refine J_istore_n dX9_one_200  (by decide) rfl ?_
  refine J_aload_n dX9_one_201 rfl ?_
  refine J_aload_n dX9_one_202 rfl ?_
  refine J_getI dX9_one_203 wX9_88 rfl jo_mPl_86 ?_
  refine J_if_ne dX9_one_206 (tgt := 213) (by decide) (fun c48 => ?_) (fun c48 => ?_)
  · refine J_iload_n dX9_one_209 rfl ?_
    refine J_if_ge dX9_one_210 (tgt := 217) (by decide) (fun c49 => ?_) (fun c49 => ?_)
    · refine J_iconst dX9_one_217 (v := (0 : Int32)) rfl ?_
      exact c9_one_b218 k r0 r1 r2 r3 r4 r5 hr0 hr1 hr2 hr3 hr4 hr5 _ _ _
    · exact c9_one_b213 k r0 r1 r2 r3 r4 r5 hr0 hr1 hr2 hr3 hr4 hr5 _ _
  · exact c9_one_b213 k r0 r1 r2 r3 r4 r5 hr0 hr1 hr2 hr3 hr4 hr5 _ _
set_option maxRecDepth 20000 in
theorem c9_one_o (k : Nat) (r0 : JMu → Option (JMu)) (r1 : JMu → Option (JMu)) (r2 : JMu → Option (JMu)) (r3 : JMu → Option (JMu)) (r4 : JMu → Option (JMu)) (r5 : JMu → Option (JMu)) (hr0 : ∀  (μ : JMu) (b : JMu), r0  μ = some b → JC m9_either (10 + k) mPl [.ref 86] μ (none, b)) (hr1 : ∀  (μ : JMu) (b : JMu), r1  μ = some b → JC m9_both (10 + k) mPl [.ref 86] μ (none, b)) (hr2 : ∀  (μ : JMu) (b : JMu), r2  μ = some b → JC m9_compared (10 + k) mPl [.ref 86] μ (none, b)) (hr3 : ∀  (μ : JMu) (b : JMu), r3  μ = some b → JC m9_sum (10 + k) mPl [.ref 86] μ (none, b)) (hr4 : ∀  (μ : JMu) (b : JMu), r4  μ = some b → JC m9_product (10 + k) mPl [.ref 86] μ (none, b)) (hr5 : ∀  (μ : JMu) (b : JMu), r5  μ = some b → JC m9_one (10 + k) mPl [.ref 86] μ (none, b)) (μ : JMu) : ∀ b, f9_one_o r0 r1 r2 r3 r4 r5  μ = some b → JC m9_one (10 + k + 1) mPl [.ref 86] μ (none, b) := by
  refine JC_of (emb := (fun b : JMu => (none, b))) (L0 := [some (.ref 86), none, none, none]) sm9_one (Nat.le_of_ble_eq_true rfl) rfl ?_
  unfold f9_one_o
  refine J_aload_n dX9_one_0 rfl ?_
  refine J_callV_i (M' := m9_here) (as := []) dX9_one_1 lX9_96 sm9_here sm9_here_w jo_mPl_86 hci_X9 (by omega) rfl (Nat.le_of_ble_eq_true rfl) (c9_here  _) (fun r50 => ?_)
  refine J_istore_n dX9_one_4  (by decide) rfl ?_
  refine J_iload_n dX9_one_5 rfl ?_
  refine J_bipush dX9_one_6 (v := (33 : Int32)) rfl ?_
  refine J_icmp_eq dX9_one_8 (tgt := 17) (by decide) (fun c51 => ?_) (fun c51 => ?_)
  · exact c9_one_b17 k r0 r1 r2 r3 r4 r5 hr0 hr1 hr2 hr3 hr4 hr5 _ _
  · refine J_iload_n dX9_one_11 rfl ?_
    refine J_bipush dX9_one_12 (v := (40 : Int32)) rfl ?_
    refine J_icmp_ne dX9_one_14 (tgt := 116) (by decide) (fun c52 => ?_) (fun c52 => ?_)
    · exact c9_one_b17 k r0 r1 r2 r3 r4 r5 hr0 hr1 hr2 hr3 hr4 hr5 _ _
    · refine J_iload_n dX9_one_116 rfl ?_
      refine J_bipush dX9_one_117 (v := (48 : Int32)) rfl ?_
      refine J_bipush dX9_one_119 (v := (57 : Int32)) rfl ?_
      refine J_callS_i (M' := m9_within) (as := [_, _, _]) dX9_one_121 lX9_76 sm9_within sm9_within_w (by omega) rfl (Nat.le_of_ble_eq_true rfl) (c9_within _ _ _ _) (fun r53 => ?_)
      refine J_if_eq dX9_one_124 (tgt := 187) (by decide) (fun c54 => ?_) (fun c54 => ?_)
      · refine J_iload_n dX9_one_187 rfl ?_
        refine J_if_ge dX9_one_188 (tgt := 195) (by decide) (fun c55 => ?_) (fun c55 => ?_)
        · refine J_aload_n dX9_one_195 rfl ?_
          refine J_iload_n dX9_one_196 rfl ?_
          refine J_callV_i (M' := m9_nameOf) (as := [_]) dX9_one_197 lX9_142 sm9_nameOf sm9_nameOf_w jo_mPl_86 hci_X9 (by omega) rfl (Nat.le_of_ble_eq_true rfl) (c9_nameOf _ _) (fun r56 => ?_)
          refine JF_drop [1] ?_
          exact c9_one_b200 k r0 r1 r2 r3 r4 r5 hr0 hr1 hr2 hr3 hr4 hr5 _ _
        · refine J_iconst dX9_one_191 (v := (-1 : Int32)) rfl ?_
          refine J_goto dX9_one_192 (tgt := 200) (by decide) ?_
          refine JF_drop [1] ?_
          exact c9_one_b200 k r0 r1 r2 r3 r4 r5 hr0 hr1 hr2 hr3 hr4 hr5 _ _
      · refine J_iconst dX9_one_127 (v := (0 : Int32)) rfl ?_
        refine J_istore_n dX9_one_128  (by decide) rfl ?_
        refine J_iconst dX9_one_129 (v := (0 : Int32)) rfl ?_
        refine J_istore_n dX9_one_130  (by decide) rfl ?_
        refine JF_drop [1] ?_
        exact c9_one_b131 k r0 r1 r2 r3 r4 r5 hr0 hr1 hr2 hr3 hr4 hr5 jN _ _ _
theorem cgf9_either : ∀ k : Nat, (∀  (μ : JMu) (b : JMu), (gf9_either k).1  μ = some b → JC m9_either (10 + k) mPl [.ref 86] μ (none, b)) ∧ (∀  (μ : JMu) (b : JMu), (gf9_either k).2.1  μ = some b → JC m9_both (10 + k) mPl [.ref 86] μ (none, b)) ∧ (∀  (μ : JMu) (b : JMu), (gf9_either k).2.2.1  μ = some b → JC m9_compared (10 + k) mPl [.ref 86] μ (none, b)) ∧ (∀  (μ : JMu) (b : JMu), (gf9_either k).2.2.2.1  μ = some b → JC m9_sum (10 + k) mPl [.ref 86] μ (none, b)) ∧ (∀  (μ : JMu) (b : JMu), (gf9_either k).2.2.2.2.1  μ = some b → JC m9_product (10 + k) mPl [.ref 86] μ (none, b)) ∧ (∀  (μ : JMu) (b : JMu), (gf9_either k).2.2.2.2.2  μ = some b → JC m9_one (10 + k) mPl [.ref 86] μ (none, b)) := by
  intro k
  induction k with
  | zero => exact ⟨fun _ _ h => (by cases h), fun _ _ h => (by cases h), fun _ _ h => (by cases h), fun _ _ h => (by cases h), fun _ _ h => (by cases h), fun _ _ h => (by cases h)⟩
  | succ k ih =>
    exact ⟨fun  μ b h => c9_either_o k _ _ _ _ _ _ (ih.1) (ih.2.1) (ih.2.2.1) (ih.2.2.2.1) (ih.2.2.2.2.1) (ih.2.2.2.2.2)  μ b h, fun  μ b h => c9_both_o k _ _ _ _ _ _ (ih.1) (ih.2.1) (ih.2.2.1) (ih.2.2.2.1) (ih.2.2.2.2.1) (ih.2.2.2.2.2)  μ b h, fun  μ b h => c9_compared_o k _ _ _ _ _ _ (ih.1) (ih.2.1) (ih.2.2.1) (ih.2.2.2.1) (ih.2.2.2.2.1) (ih.2.2.2.2.2)  μ b h, fun  μ b h => c9_sum_o k _ _ _ _ _ _ (ih.1) (ih.2.1) (ih.2.2.1) (ih.2.2.2.1) (ih.2.2.2.2.1) (ih.2.2.2.2.2)  μ b h, fun  μ b h => c9_product_o k _ _ _ _ _ _ (ih.1) (ih.2.1) (ih.2.2.1) (ih.2.2.2.1) (ih.2.2.2.2.1) (ih.2.2.2.2.2)  μ b h, fun  μ b h => c9_one_o k _ _ _ _ _ _ (ih.1) (ih.2.1) (ih.2.2.1) (ih.2.2.2.1) (ih.2.2.2.2.1) (ih.2.2.2.2.2)  μ b h⟩
theorem c9_either : ∀  (μ : JMu) (b : JMu), f9_either  μ = some b → JC m9_either (10 + jK) mPl [.ref 86] μ (none, b) := (cgf9_either jK).1
theorem c9_both : ∀  (μ : JMu) (b : JMu), f9_both  μ = some b → JC m9_both (10 + jK) mPl [.ref 86] μ (none, b) := (cgf9_either jK).2.1
theorem c9_compared : ∀  (μ : JMu) (b : JMu), f9_compared  μ = some b → JC m9_compared (10 + jK) mPl [.ref 86] μ (none, b) := (cgf9_either jK).2.2.1
theorem c9_sum : ∀  (μ : JMu) (b : JMu), f9_sum  μ = some b → JC m9_sum (10 + jK) mPl [.ref 86] μ (none, b) := (cgf9_either jK).2.2.2.1
theorem c9_product : ∀  (μ : JMu) (b : JMu), f9_product  μ = some b → JC m9_product (10 + jK) mPl [.ref 86] μ (none, b) := (cgf9_either jK).2.2.2.2.1
theorem c9_one : ∀  (μ : JMu) (b : JMu), f9_one  μ = some b → JC m9_one (10 + jK) mPl [.ref 86] μ (none, b) := (cgf9_either jK).2.2.2.2.2
set_option maxRecDepth 20000 in
theorem c9_text_b117 (n : Nat) : ∀ (v2 : Int32) (μ : JMu), JF m9_text 111 mPl (fun b : Int32 × JMu => (some (.int b.1), b.2)) 117 [some (.ref 86), none, some (.int (v2))] [] μ (f9_text_b117 n v2 μ) := by
  induction n with
  | zero => intros; exact JF_none
  | succ n ih =>
    intro v2 μ
    rw [f9_text_b117]
    refine J_iload_n dX9_text_117 rfl ?_
    refine J_aload_n dX9_text_118 rfl ?_
    refine J_getI dX9_text_119 wX9_100 rfl jo_mPl_86 ?_
    refine J_icmp_ge dX9_text_122 (tgt := 156) (by decide) (fun c15 => ?_) (fun c15 => ?_)
    · refine J_iconst dX9_text_156 (v := (1 : Int32)) rfl ?_
      exact J_iret dX9_text_157 rfl rfl
    · refine J_aload_n dX9_text_125 rfl ?_
      refine J_getR dX9_text_126 wX9_9 rfl jo_mPl_86 jr_86_0 ?_
      refine J_bipush dX9_text_129 (v := (106 : Int32)) rfl ?_
      refine J_bipush dX9_text_131 (v := (52 : Int32)) rfl ?_
      refine J_aload_n dX9_text_133 rfl ?_
      refine J_getI dX9_text_134 wX9_126 rfl jo_mPl_86 ?_
      refine J_imul dX9_text_137 ?_
      refine J_iadd dX9_text_138 ?_
      refine J_iconst dX9_text_139 (v := (1 : Int32)) rfl ?_
      refine J_iadd dX9_text_140 ?_
      refine J_iload_n dX9_text_141 rfl ?_
      refine J_iadd dX9_text_142 ?_
      refine J_aload_n dX9_text_143 rfl ?_
      refine J_getR dX9_text_144 wX9_32 rfl jo_mPl_86 jr_86_10 ?_
      refine J_iload_n dX9_text_147 rfl ?_
      refine JF_chk (fun c17 => ?_)
      refine J_iald dX9_text_148 ji_mPl_92 jl_92 (jin_spec c17) rfl ?_
      refine JF_chk (fun c16 => ?_)
      refine J_iast dX9_text_149 ji_mPl_87 jl_87 (jin_spec c16) rfl ?_
      refine J_iinc dX9_text_150 rfl (c0 := (1 : Int32)) rfl (by decide) rfl ?_
      refine J_goto dX9_text_153 (tgt := 117) (by decide) ?_
      exact ih _ _
set_option maxRecDepth 20000 in
theorem c9_text_b71 (s0 : Int32) (μ : JMu) : JF m9_text 111 mPl (fun b : Int32 × JMu => (some (.int b.1), b.2)) 71 [some (.ref 86), none, none] [.int (s0), .ref 86] μ (f9_text_b71 s0 μ) := by
  unfold f9_text_b71
  refine JF_chk (fun c21 => ?_)
  refine J_putZ dX9_text_71 wX9_88 rfl jo_mPl_86 c21 ?_
  refine J_aload_n dX9_text_74 rfl ?_
  refine J_getR dX9_text_75 wX9_9 rfl jo_mPl_86 jr_86_0 ?_
  refine J_iconst dX9_text_78 (v := (3 : Int32)) rfl ?_
  refine J_iconst dX9_text_79 (v := (0 : Int32)) rfl ?_
  refine J_iast dX9_text_80 ji_mPl_87 jl_87 (jin_spec (by decide)) (j := 3) rfl ?_
  refine J_aload_n dX9_text_81 rfl ?_
  refine J_getI dX9_text_82 wX9_88 rfl jo_mPl_86 ?_
  refine J_if_eq dX9_text_85 (tgt := 96) (by decide) (fun c18 => ?_) (fun c18 => ?_)
  · refine J_aload_n dX9_text_96 rfl ?_
    refine J_getR dX9_text_97 wX9_9 rfl jo_mPl_86 jr_86_0 ?_
    refine J_bipush dX9_text_100 (v := (106 : Int32)) rfl ?_
    refine J_bipush dX9_text_102 (v := (52 : Int32)) rfl ?_
    refine J_aload_n dX9_text_104 rfl ?_
    refine J_getI dX9_text_105 wX9_126 rfl jo_mPl_86 ?_
    refine J_imul dX9_text_108 ?_
    refine J_iadd dX9_text_109 ?_
    refine J_aload_n dX9_text_110 rfl ?_
    refine J_getI dX9_text_111 wX9_100 rfl jo_mPl_86 ?_
    refine JF_chk (fun c19 => ?_)
    refine J_iast dX9_text_114 ji_mPl_87 jl_87 (jin_spec c19) rfl ?_
    refine J_iconst dX9_text_115 (v := (0 : Int32)) rfl ?_
    refine J_istore_n dX9_text_116  (by decide) rfl ?_
    exact c9_text_b117 jN _ _
  · refine J_bipush dX9_text_88 (v := (-10 : Int32)) rfl ?_
    refine J_aload_n dX9_text_90 rfl ?_
    refine J_getI dX9_text_91 wX9_92 rfl jo_mPl_86 ?_
    refine J_isub dX9_text_94 ?_
    exact J_iret dX9_text_95 rfl rfl
set_option maxRecDepth 20000 in
theorem c9_text_b66 (μ : JMu) : JF m9_text 111 mPl (fun b : Int32 × JMu => (some (.int b.1), b.2)) 66 [some (.ref 86), none, none] [.ref 86] μ (f9_text_b66  μ) := by
  unfold f9_text_b66
  refine J_iconst dX9_text_66 (v := (1 : Int32)) rfl ?_
  refine J_goto dX9_text_67 (tgt := 71) (by decide) ?_
  exact c9_text_b71 _ _
set_option maxRecDepth 20000 in
theorem c9_text (a1 : Int32) (μ : JMu) : ∀ b, f9_text a1 μ = some b → JC m9_text 111 mPl [.ref 86, .int (a1)] μ (some (.int b.1), b.2) := by
  refine JC_of (emb := (fun b : Int32 × JMu => (some (.int b.1), b.2))) (L0 := [some (.ref 86), some (.int (a1)), none]) sm9_text (Nat.le_of_ble_eq_true rfl) rfl ?_
  unfold f9_text
  refine J_iload_n dX9_text_0 rfl ?_
  refine J_iconst dX9_text_1 (v := (0 : Int32)) rfl ?_
  refine J_iconst dX9_text_2 (v := (1 : Int32)) rfl ?_
  refine J_callS_i (M' := m9_within) (as := [_, _, _]) dX9_text_3 lX9_76 sm9_within sm9_within_w (by decide) rfl (Nat.le_of_ble_eq_true rfl) (c9_within _ _ _ _) (fun r22 => ?_)
  refine J_if_ne dX9_text_6 (tgt := 16) (by decide) (fun c23 => ?_) (fun c23 => ?_)
  · refine J_aload_n dX9_text_9 rfl ?_
    refine J_ldc dX9_text_10 kX9_80 ?_
    refine J_callV_w (M' := m9_finding) (as := [_]) dX9_text_12 lX9_81 sm9_finding sm9_finding_w jo_mPl_86 hci_X9 (by decide) rfl (Nat.le_of_ble_eq_true rfl) (c9_finding _ _) (fun r28 => ?_)
    exact J_iret dX9_text_15 rfl rfl
  · refine J_aload_n dX9_text_16 rfl ?_
    refine J_iload_n dX9_text_17 rfl ?_
    refine J_putI dX9_text_18 wX9_126 rfl jo_mPl_86 ?_
    refine J_aload_n dX9_text_21 rfl ?_
    refine J_iconst dX9_text_22 (v := (0 : Int32)) rfl ?_
    refine J_putI dX9_text_23 wX9_92 rfl jo_mPl_86 ?_
    refine J_aload_n dX9_text_26 rfl ?_
    refine J_iconst dX9_text_27 (v := (0 : Int32)) rfl ?_
    refine J_putI dX9_text_28 wX9_136 rfl jo_mPl_86 ?_
    refine J_aload_n dX9_text_31 rfl ?_
    refine J_iconst dX9_text_32 (v := (0 : Int32)) rfl ?_
    refine J_putZ dX9_text_33 wX9_88 rfl jo_mPl_86 (Or.inl rfl) ?_
    refine J_aload_n dX9_text_36 rfl ?_
    refine J_iconst dX9_text_37 (v := (0 : Int32)) rfl ?_
    refine J_putI dX9_text_38 wX9_100 rfl jo_mPl_86 ?_
    refine J_aload_n dX9_text_41 rfl ?_
    refine J_callV_v (M' := m9_either) (as := []) dX9_text_42 lX9_139 sm9_either sm9_either_w jo_mPl_86 hci_X9 (by decide) rfl (Nat.le_of_ble_eq_true rfl) (c9_either  _) (fun r24 => ?_)
    refine J_aload_n dX9_text_45 rfl ?_
    refine J_aload_n dX9_text_46 rfl ?_
    refine J_getI dX9_text_47 wX9_88 rfl jo_mPl_86 ?_
    refine J_if_ne dX9_text_50 (tgt := 66) (by decide) (fun c25 => ?_) (fun c25 => ?_)
    · refine J_aload_n dX9_text_53 rfl ?_
      refine J_getI dX9_text_54 wX9_92 rfl jo_mPl_86 ?_
      refine J_aload_n dX9_text_57 rfl ?_
      refine J_getR dX9_text_58 wX9_9 rfl jo_mPl_86 jr_86_0 ?_
      refine J_iconst dX9_text_61 (v := (3 : Int32)) rfl ?_
      refine J_iald dX9_text_62 ji_mPl_87 jl_87 (jin_spec (by decide)) (j := 3) rfl ?_
      refine J_icmp_ge dX9_text_63 (tgt := 70) (by decide) (fun c26 => ?_) (fun c26 => ?_)
      · refine J_iconst dX9_text_70 (v := (0 : Int32)) rfl ?_
        refine JF_drop [1] ?_
        exact c9_text_b71 _ _
      · refine JF_drop [1] ?_
        exact c9_text_b66  _
    · refine JF_drop [1] ?_
      exact c9_text_b66  _
set_option maxRecDepth 20000 in
theorem c9_done (a1 : Int32) (a2 : Int32) (a3 : Int32) (μ : JMu) : ∀ b, f9_done a1 a2 a3 = some b → JC m9_done 0 mPl [.int (a1), .int (a2), .int (a3)] μ (some (.int b), μ) := by
  refine JC_of (emb := (fun b : Int32 => (some (.int b), μ))) (L0 := [some (.int (a1)), some (.int (a2)), some (.int (a3))]) sm9_done (Nat.le_of_ble_eq_true rfl) rfl ?_
  unfold f9_done
  refine J_iload_n dX9_done_0 rfl ?_
  refine JF_ite (fun c21 => ?_) (fun c21 => ?_)
  · refine J_tabIn (20000 : Int32) dX9_done_1 (tgt := 52)  c21 (by decide) (by decide) rfl (by decide) ?_
    refine J_iload_n dX9_done_52 rfl ?_
    refine J_if_ne dX9_done_53 (tgt := 60) (by decide) (fun c22 => ?_) (fun c22 => ?_)
    · refine J_iload_n dX9_done_56 rfl ?_
      refine J_if_eq dX9_done_57 (tgt := 64) (by decide) (fun c23 => ?_) (fun c23 => ?_)
      · refine J_iconst dX9_done_64 (v := (0 : Int32)) rfl ?_
        exact J_iret dX9_done_65 rfl rfl
      · refine J_iconst dX9_done_60 (v := (1 : Int32)) rfl ?_
        refine J_goto dX9_done_61 (tgt := 65) (by decide) ?_
        exact J_iret dX9_done_65 rfl rfl
    · refine J_iconst dX9_done_60 (v := (1 : Int32)) rfl ?_
      refine J_goto dX9_done_61 (tgt := 65) (by decide) ?_
      exact J_iret dX9_done_65 rfl rfl
  · refine JF_ite (fun c24 => ?_) (fun c24 => ?_)
    · refine J_tabIn (20001 : Int32) dX9_done_1 (tgt := 66)  c24 (by decide) (by decide) rfl (by decide) ?_
      refine J_iload_n dX9_done_66 rfl ?_
      refine J_if_eq dX9_done_67 (tgt := 78) (by decide) (fun c25 => ?_) (fun c25 => ?_)
      · refine J_iconst dX9_done_78 (v := (0 : Int32)) rfl ?_
        exact J_iret dX9_done_79 rfl rfl
      · refine J_iload_n dX9_done_70 rfl ?_
        refine J_if_eq dX9_done_71 (tgt := 78) (by decide) (fun c26 => ?_) (fun c26 => ?_)
        · refine J_iconst dX9_done_78 (v := (0 : Int32)) rfl ?_
          exact J_iret dX9_done_79 rfl rfl
        · refine J_iconst dX9_done_74 (v := (1 : Int32)) rfl ?_
          refine J_goto dX9_done_75 (tgt := 79) (by decide) ?_
          exact J_iret dX9_done_79 rfl rfl
    · refine JF_ite (fun c27 => ?_) (fun c27 => ?_)
      · refine J_tabIn (20002 : Int32) dX9_done_1 (tgt := 80)  c27 (by decide) (by decide) rfl (by decide) ?_
        refine J_iload_n dX9_done_80 rfl ?_
        refine J_iload_n dX9_done_81 rfl ?_
        refine J_icmp_ge dX9_done_82 (tgt := 89) (by decide) (fun c28 => ?_) (fun c28 => ?_)
        · refine J_iconst dX9_done_89 (v := (0 : Int32)) rfl ?_
          exact J_iret dX9_done_90 rfl rfl
        · refine J_iconst dX9_done_85 (v := (1 : Int32)) rfl ?_
          refine J_goto dX9_done_86 (tgt := 90) (by decide) ?_
          exact J_iret dX9_done_90 rfl rfl
      · refine JF_ite (fun c29 => ?_) (fun c29 => ?_)
        · refine J_tabIn (20003 : Int32) dX9_done_1 (tgt := 91)  c29 (by decide) (by decide) rfl (by decide) ?_
          refine J_iload_n dX9_done_91 rfl ?_
          refine J_iload_n dX9_done_92 rfl ?_
          refine J_icmp_ne dX9_done_93 (tgt := 100) (by decide) (fun c30 => ?_) (fun c30 => ?_)
          · refine J_iconst dX9_done_96 (v := (1 : Int32)) rfl ?_
            refine J_goto dX9_done_97 (tgt := 101) (by decide) ?_
            exact J_iret dX9_done_101 rfl rfl
          · refine J_iconst dX9_done_100 (v := (0 : Int32)) rfl ?_
            exact J_iret dX9_done_101 rfl rfl
        · refine JF_ite (fun c31 => ?_) (fun c31 => ?_)
          · refine J_tabIn (20004 : Int32) dX9_done_1 (tgt := 102)  c31 (by decide) (by decide) rfl (by decide) ?_
            refine J_iload_n dX9_done_102 rfl ?_
            refine J_iload_n dX9_done_103 rfl ?_
            refine J_icmp_le dX9_done_104 (tgt := 111) (by decide) (fun c32 => ?_) (fun c32 => ?_)
            · refine J_iconst dX9_done_111 (v := (0 : Int32)) rfl ?_
              exact J_iret dX9_done_112 rfl rfl
            · refine J_iconst dX9_done_107 (v := (1 : Int32)) rfl ?_
              refine J_goto dX9_done_108 (tgt := 112) (by decide) ?_
              exact J_iret dX9_done_112 rfl rfl
          · refine JF_ite (fun c33 => ?_) (fun c33 => ?_)
            · refine J_tabIn (20005 : Int32) dX9_done_1 (tgt := 113)  c33 (by decide) (by decide) rfl (by decide) ?_
              refine J_iload_n dX9_done_113 rfl ?_
              refine J_iload_n dX9_done_114 rfl ?_
              refine J_iadd dX9_done_115 ?_
              exact J_iret dX9_done_116 rfl rfl
            · refine JF_ite (fun c34 => ?_) (fun c34 => ?_)
              · refine J_tabIn (20006 : Int32) dX9_done_1 (tgt := 117)  c34 (by decide) (by decide) rfl (by decide) ?_
                refine J_iload_n dX9_done_117 rfl ?_
                refine J_iload_n dX9_done_118 rfl ?_
                refine J_isub dX9_done_119 ?_
                exact J_iret dX9_done_120 rfl rfl
              · refine JF_ite (fun c35 => ?_) (fun c35 => ?_)
                · refine J_tabIn (20007 : Int32) dX9_done_1 (tgt := 121)  c35 (by decide) (by decide) rfl (by decide) ?_
                  refine J_iload_n dX9_done_121 rfl ?_
                  refine J_iload_n dX9_done_122 rfl ?_
                  refine J_imul dX9_done_123 ?_
                  exact J_iret dX9_done_124 rfl rfl
                · refine JF_ite (fun c36 => ?_) (fun c36 => ?_)
                  · refine J_tabIn (20008 : Int32) dX9_done_1 (tgt := 125)  c36 (by decide) (by decide) rfl (by decide) ?_
                    refine J_iload_n dX9_done_125 rfl ?_
                    refine J_if_ne dX9_done_126 (tgt := 133) (by decide) (fun c37 => ?_) (fun c37 => ?_)
                    · refine J_iconst dX9_done_129 (v := (0 : Int32)) rfl ?_
                      refine J_goto dX9_done_130 (tgt := 136) (by decide) ?_
                      exact J_iret dX9_done_136 rfl rfl
                    · refine J_iload_n dX9_done_133 rfl ?_
                      refine J_iload_n dX9_done_134 rfl ?_
                      refine JF_chk (fun c38 => ?_)
                      refine J_idiv dX9_done_135 c38 ?_
                      exact J_iret dX9_done_136 rfl rfl
                  · refine J_tabOut dX9_done_1 (tgt := 137) (by have z0 := lv_neT c21 (k := (20000 : Int32)) (a := 20000) rfl; have z1 := lv_neT c24 (k := (20001 : Int32)) (a := 20001) rfl; have z2 := lv_neT c27 (k := (20002 : Int32)) (a := 20002) rfl; have z3 := lv_neT c29 (k := (20003 : Int32)) (a := 20003) rfl; have z4 := lv_neT c31 (k := (20004 : Int32)) (a := 20004) rfl; have z5 := lv_neT c33 (k := (20005 : Int32)) (a := 20005) rfl; have z6 := lv_neT c34 (k := (20006 : Int32)) (a := 20006) rfl; have z7 := lv_neT c35 (k := (20007 : Int32)) (a := 20007) rfl; have z8 := lv_neT c36 (k := (20008 : Int32)) (a := 20008) rfl; omega) (by decide) ?_
                    refine J_iload_n dX9_done_137 rfl ?_
                    refine J_if_ne dX9_done_138 (tgt := 145) (by decide) (fun c39 => ?_) (fun c39 => ?_)
                    · refine J_iconst dX9_done_141 (v := (0 : Int32)) rfl ?_
                      refine J_goto dX9_done_142 (tgt := 148) (by decide) ?_
                      exact J_iret dX9_done_148 rfl rfl
                    · refine J_iload_n dX9_done_145 rfl ?_
                      refine J_iload_n dX9_done_146 rfl ?_
                      refine JF_chk (fun c40 => ?_)
                      refine J_irem dX9_done_147 c40 ?_
                      exact J_iret dX9_done_148 rfl rfl
set_option maxRecDepth 20000 in
theorem c9_worked_b63 (k4 : Int32 → Int32 → Int32 → JMu → Option (Int32 × JMu)) (hk4 : ∀ (v1 : Int32) (v2 : Int32) (v3 : Int32) (μ : JMu), JF m9_worked 1 mPl (fun b : Int32 × JMu => (some (.int b.1), b.2)) 4 [some (.ref 86), some (.int (v1)), some (.int (v2)), some (.int (v3)), none] [] μ (k4 v1 v2 v3 μ)) (v1 : Int32) (v2 : Int32) (v3 : Int32) (s0 : Int32) (s1 : Int32) (μ : JMu) : JF m9_worked 1 mPl (fun b : Int32 × JMu => (some (.int b.1), b.2)) 63 [some (.ref 86), some (.int (v1)), some (.int (v2)), some (.int (v3)), none] [.int (s0), .int (s1), .ref 94] μ (f9_worked_b63 k4 v1 v2 v3 s0 s1 μ) := by
  unfold f9_worked_b63
  refine JF_chk (fun c17 => ?_)
  refine J_iast dX9_worked_63 ji_mPl_94 jl_94 (jin_spec c17) rfl ?_
  refine J_iinc dX9_worked_64 rfl (c0 := (1 : Int32)) rfl (by decide) rfl ?_
  refine J_goto dX9_worked_67 (tgt := 135) (by decide) ?_
  refine J_iinc dX9_worked_135 rfl (c0 := (1 : Int32)) rfl (by decide) rfl ?_
  refine J_goto dX9_worked_138 (tgt := 4) (by decide) ?_
  exact hk4 _ _ _ _
set_option maxRecDepth 20000 in
theorem c9_worked_b101 (k4 : Int32 → Int32 → Int32 → JMu → Option (Int32 × JMu)) (hk4 : ∀ (v1 : Int32) (v2 : Int32) (v3 : Int32) (μ : JMu), JF m9_worked 1 mPl (fun b : Int32 × JMu => (some (.int b.1), b.2)) 4 [some (.ref 86), some (.int (v1)), some (.int (v2)), some (.int (v3)), none] [] μ (k4 v1 v2 v3 μ)) (v1 : Int32) (v2 : Int32) (v3 : Int32) (s0 : Int32) (s1 : Int32) (μ : JMu) : JF m9_worked 1 mPl (fun b : Int32 × JMu => (some (.int b.1), b.2)) 101 [some (.ref 86), some (.int (v1)), some (.int (v2)), some (.int (v3)), none] [.int (s0), .int (s1), .ref 94] μ (f9_worked_b101 k4 v1 v2 v3 s0 s1 μ) := by
  unfold f9_worked_b101
  refine JF_chk (fun c18 => ?_)
  refine J_iast dX9_worked_101 ji_mPl_94 jl_94 (jin_spec c18) rfl ?_
  refine J_goto dX9_worked_102 (tgt := 135) (by decide) ?_
  refine J_iinc dX9_worked_135 rfl (c0 := (1 : Int32)) rfl (by decide) rfl ?_
  refine J_goto dX9_worked_138 (tgt := 4) (by decide) ?_
  exact hk4 _ _ _ _
set_option maxRecDepth 20000 in
theorem c9_worked_b4 (n : Nat) : ∀ (v1 : Int32) (v2 : Int32) (v3 : Int32) (μ : JMu), JF m9_worked 1 mPl (fun b : Int32 × JMu => (some (.int b.1), b.2)) 4 [some (.ref 86), some (.int (v1)), some (.int (v2)), some (.int (v3)), none] [] μ (f9_worked_b4 n v1 v2 v3 μ) := by
  induction n with
  | zero => intros; exact JF_none
  | succ n ih =>
    intro v1 v2 v3 μ
    rw [f9_worked_b4]
    refine J_iload_n dX9_worked_4 rfl ?_
    refine J_iload_n dX9_worked_5 rfl ?_
    refine J_aload_n dX9_worked_6 rfl ?_
    refine J_getR dX9_worked_7 wX9_9 rfl jo_mPl_86 jr_86_0 ?_
    refine J_iload_n dX9_worked_10 rfl ?_
    refine J_iconst dX9_worked_11 (v := (1 : Int32)) rfl ?_
    refine J_isub dX9_worked_12 ?_
    refine JF_chk (fun c32 => ?_)
    refine J_iald dX9_worked_13 ji_mPl_87 jl_87 (jin_spec c32) rfl ?_
    refine J_iadd dX9_worked_14 ?_
    refine J_icmp_ge dX9_worked_15 (tgt := 141) (by decide) (fun c19 => ?_) (fun c19 => ?_)
    · refine J_aload_n dX9_worked_141 rfl ?_
      refine J_getR dX9_worked_142 wX9_38 rfl jo_mPl_86 jr_86_13 ?_
      refine J_iconst dX9_worked_145 (v := (0 : Int32)) rfl ?_
      refine J_iald dX9_worked_146 ji_mPl_94 jl_94 (jin_spec (by decide)) (j := 0) rfl ?_
      exact J_iret dX9_worked_147 rfl rfl
    · refine J_aload_n dX9_worked_18 rfl ?_
      refine J_getR dX9_worked_19 wX9_9 rfl jo_mPl_86 jr_86_0 ?_
      refine J_iload_n dX9_worked_22 rfl ?_
      refine JF_chk (fun c31 => ?_)
      refine J_iald dX9_worked_23 ji_mPl_87 jl_87 (jin_spec c31) rfl ?_
      refine J_istore dX9_worked_24  (by decide) rfl ?_
      refine J_iload dX9_worked_26 rfl ?_
      refine J_sipush dX9_worked_28 (v := (20000 : Int32)) rfl ?_
      refine J_icmp_ge dX9_worked_31 (tgt := 70) (by decide) (fun c21 => ?_) (fun c21 => ?_)
      · refine J_iload dX9_worked_70 rfl ?_
        refine J_sipush dX9_worked_72 (v := (20010 : Int32)) rfl ?_
        refine J_icmp_ne dX9_worked_75 (tgt := 105) (by decide) (fun c22 => ?_) (fun c22 => ?_)
        · refine J_aload_n dX9_worked_78 rfl ?_
          refine J_getR dX9_worked_79 wX9_38 rfl jo_mPl_86 jr_86_13 ?_
          refine J_iload_n dX9_worked_82 rfl ?_
          refine J_iconst dX9_worked_83 (v := (1 : Int32)) rfl ?_
          refine J_isub dX9_worked_84 ?_
          refine J_aload_n dX9_worked_85 rfl ?_
          refine J_getR dX9_worked_86 wX9_38 rfl jo_mPl_86 jr_86_13 ?_
          refine J_iload_n dX9_worked_89 rfl ?_
          refine J_iconst dX9_worked_90 (v := (1 : Int32)) rfl ?_
          refine J_isub dX9_worked_91 ?_
          refine JF_chk (fun c28 => ?_)
          refine J_iald dX9_worked_92 ji_mPl_94 jl_94 (jin_spec c28) rfl ?_
          refine J_if_ne dX9_worked_93 (tgt := 100) (by decide) (fun c27 => ?_) (fun c27 => ?_)
          · refine J_iconst dX9_worked_96 (v := (1 : Int32)) rfl ?_
            refine J_goto dX9_worked_97 (tgt := 101) (by decide) ?_
            refine JF_drop [4] ?_
            exact c9_worked_b101 _ ih _ _ _ _ _ _
          · refine J_iconst dX9_worked_100 (v := (0 : Int32)) rfl ?_
            refine JF_drop [4] ?_
            exact c9_worked_b101 _ ih _ _ _ _ _ _
        · refine J_iinc dX9_worked_105 rfl (c0 := (-1 : Int32)) rfl (by decide) rfl ?_
          refine J_aload_n dX9_worked_108 rfl ?_
          refine J_getR dX9_worked_109 wX9_38 rfl jo_mPl_86 jr_86_13 ?_
          refine J_iload_n dX9_worked_112 rfl ?_
          refine J_iconst dX9_worked_113 (v := (1 : Int32)) rfl ?_
          refine J_isub dX9_worked_114 ?_
          refine J_iload dX9_worked_115 rfl ?_
          refine J_aload_n dX9_worked_117 rfl ?_
          refine J_getR dX9_worked_118 wX9_38 rfl jo_mPl_86 jr_86_13 ?_
          refine J_iload_n dX9_worked_121 rfl ?_
          refine J_iconst dX9_worked_122 (v := (1 : Int32)) rfl ?_
          refine J_isub dX9_worked_123 ?_
          refine JF_chk (fun c26 => ?_)
          refine J_iald dX9_worked_124 ji_mPl_94 jl_94 (jin_spec c26) rfl ?_
          refine J_aload_n dX9_worked_125 rfl ?_
          refine J_getR dX9_worked_126 wX9_38 rfl jo_mPl_86 jr_86_13 ?_
          refine J_iload_n dX9_worked_129 rfl ?_
          refine JF_chk (fun c25 => ?_)
          refine J_iald dX9_worked_130 ji_mPl_94 jl_94 (jin_spec c25) rfl ?_
          refine J_callS_i (M' := m9_done) (as := [_, _, _]) dX9_worked_131 lX9_145 sm9_done sm9_done_w (by decide) rfl (Nat.le_of_ble_eq_true rfl) (c9_done _ _ _ _) (fun r23 => ?_)
          refine JF_chk (fun c24 => ?_)
          refine J_iast dX9_worked_134 ji_mPl_94 jl_94 (jin_spec c24) rfl ?_
          refine J_iinc dX9_worked_135 rfl (c0 := (1 : Int32)) rfl (by decide) rfl ?_
          refine J_goto dX9_worked_138 (tgt := 4) (by decide) ?_
          refine JF_drop [4] ?_
          exact ih _ _ _ _
      · refine J_aload_n dX9_worked_34 rfl ?_
        refine J_getR dX9_worked_35 wX9_38 rfl jo_mPl_86 jr_86_13 ?_
        refine J_iload_n dX9_worked_38 rfl ?_
        refine J_iload dX9_worked_39 rfl ?_
        refine J_sipush dX9_worked_41 (v := (10000 : Int32)) rfl ?_
        refine J_icmp_ge dX9_worked_44 (tgt := 52) (by decide) (fun c29 => ?_) (fun c29 => ?_)
        · refine J_aload_n dX9_worked_52 rfl ?_
          refine J_getR dX9_worked_53 wX9_35 rfl jo_mPl_86 jr_86_12 ?_
          refine J_iload dX9_worked_56 rfl ?_
          refine J_sipush dX9_worked_58 (v := (10000 : Int32)) rfl ?_
          refine J_isub dX9_worked_61 ?_
          refine JF_chk (fun c30 => ?_)
          refine J_iald dX9_worked_62 ji_mPl_93 jl_93 (jin_spec c30) rfl ?_
          refine JF_drop [4] ?_
          exact c9_worked_b63 _ ih _ _ _ _ _ _
        · refine J_iload dX9_worked_47 rfl ?_
          refine J_goto dX9_worked_49 (tgt := 63) (by decide) ?_
          refine JF_drop [4] ?_
          exact c9_worked_b63 _ ih _ _ _ _ _ _
set_option maxRecDepth 20000 in
theorem c9_worked (a1 : Int32) (μ : JMu) : ∀ b, f9_worked a1 μ = some b → JC m9_worked 1 mPl [.ref 86, .int (a1)] μ (some (.int b.1), b.2) := by
  refine JC_of (emb := (fun b : Int32 × JMu => (some (.int b.1), b.2))) (L0 := [some (.ref 86), some (.int (a1)), none, none, none]) sm9_worked (Nat.le_of_ble_eq_true rfl) rfl ?_
  unfold f9_worked
  refine J_iconst dX9_worked_0 (v := (0 : Int32)) rfl ?_
  refine J_istore_n dX9_worked_1  (by decide) rfl ?_
  refine J_iload_n dX9_worked_2 rfl ?_
  refine J_istore_n dX9_worked_3  (by decide) rfl ?_
  exact c9_worked_b4 jN _ _ _ _
set_option maxRecDepth 20000 in
theorem c9_hasText (a1 : Int32) (μ : JMu) : ∀ b, f9_hasText a1 μ = some b → JC m9_hasText 0 mPl [.ref 86, .int (a1)] μ (some (.int b), μ) := by
  refine JC_of (emb := (fun b : Int32 => (some (.int b), μ))) (L0 := [some (.ref 86), some (.int (a1))]) sm9_hasText (Nat.le_of_ble_eq_true rfl) rfl ?_
  unfold f9_hasText
  refine J_aload_n dX9_hasText_0 rfl ?_
  refine J_getR dX9_hasText_1 wX9_9 rfl jo_mPl_86 jr_86_0 ?_
  refine J_bipush dX9_hasText_4 (v := (106 : Int32)) rfl ?_
  refine J_bipush dX9_hasText_6 (v := (52 : Int32)) rfl ?_
  refine J_iload_n dX9_hasText_8 rfl ?_
  refine J_imul dX9_hasText_9 ?_
  refine J_iadd dX9_hasText_10 ?_
  refine JF_chk (fun c4 => ?_)
  refine J_iald dX9_hasText_11 ji_mPl_87 jl_87 (jin_spec c4) rfl ?_
  refine J_if_le dX9_hasText_12 (tgt := 19) (by decide) (fun c3 => ?_) (fun c3 => ?_)
  · refine J_iconst dX9_hasText_19 (v := (0 : Int32)) rfl ?_
    exact J_zret dX9_hasText_20 rfl (Or.inl rfl) rfl
  · refine J_iconst dX9_hasText_15 (v := (1 : Int32)) rfl ?_
    refine J_goto dX9_hasText_16 (tgt := 20) (by decide) ?_
    exact J_zret dX9_hasText_20 rfl (Or.inr rfl) rfl
set_option maxRecDepth 20000 in
theorem c9_given_b68 (s0 : Int32) (μ : JMu) : JF m9_given 2 mPl (fun b : Int32 × JMu => (some (.int b.1), b.2)) 68 [none, none, none, none, none] [.int (s0)] μ (f9_given_b68 s0 μ) := by
  unfold f9_given_b68
  refine J_iconst dX9_given_68 (v := (0 : Int32)) rfl ?_
  refine J_bipush dX9_given_69 (v := (99 : Int32)) rfl ?_
  refine J_callS_i (M' := m9_held) (as := [_, _, _]) dX9_given_71 lX9_155 sm9_held sm9_held_w (by decide) rfl (Nat.le_of_ble_eq_true rfl) (c9_held _ _ _ _) (fun r12 => ?_)
  exact J_iret dX9_given_74 rfl rfl
set_option maxRecDepth 20000 in
theorem c9_given (a1 : Int32) (a2 : Int32) (a3 : Int32) (a4 : Int32) (μ : JMu) : ∀ b, f9_given a1 a2 a3 a4 μ = some b → JC m9_given 2 mPl [.ref 86, .int (a1), .int (a2), .int (a3), .int (a4)] μ (some (.int b.1), b.2) := by
  refine JC_of (emb := (fun b : Int32 × JMu => (some (.int b.1), b.2))) (L0 := [some (.ref 86), some (.int (a1)), some (.int (a2)), some (.int (a3)), some (.int (a4))]) sm9_given (Nat.le_of_ble_eq_true rfl) rfl ?_
  unfold f9_given
  refine J_aload_n dX9_given_0 rfl ?_
  refine J_getR dX9_given_1 wX9_35 rfl jo_mPl_86 jr_86_12 ?_
  refine J_iconst dX9_given_4 (v := (0 : Int32)) rfl ?_
  refine J_iload_n dX9_given_5 rfl ?_
  refine J_iast dX9_given_6 ji_mPl_93 jl_93 (jin_spec (by decide)) (j := 0) rfl ?_
  refine J_aload_n dX9_given_7 rfl ?_
  refine J_getR dX9_given_8 wX9_35 rfl jo_mPl_86 jr_86_12 ?_
  refine J_iconst dX9_given_11 (v := (1 : Int32)) rfl ?_
  refine J_iload_n dX9_given_12 rfl ?_
  refine J_iast dX9_given_13 ji_mPl_93 jl_93 (jin_spec (by decide)) (j := 1) rfl ?_
  refine J_aload_n dX9_given_14 rfl ?_
  refine J_getR dX9_given_15 wX9_35 rfl jo_mPl_86 jr_86_12 ?_
  refine J_iconst dX9_given_18 (v := (2 : Int32)) rfl ?_
  refine J_iload dX9_given_19 rfl ?_
  refine J_iast dX9_given_21 ji_mPl_93 jl_93 (jin_spec (by decide)) (j := 2) rfl ?_
  refine J_iload_n dX9_given_22 rfl ?_
  refine J_if_ne dX9_given_23 (tgt := 45) (by decide) (fun c13 => ?_) (fun c13 => ?_)
  · refine J_aload_n dX9_given_26 rfl ?_
    refine J_iconst dX9_given_27 (v := (0 : Int32)) rfl ?_
    refine J_callV_i (M' := m9_hasText) (as := [_]) dX9_given_28 lX9_149 sm9_hasText sm9_hasText_w jo_mPl_86 hci_X9 (by decide) rfl (Nat.le_of_ble_eq_true rfl) (c9_hasText _ _) (fun r17 => ?_)
    refine J_if_eq dX9_given_31 (tgt := 43) (by decide) (fun c18 => ?_) (fun c18 => ?_)
    · refine J_iconst dX9_given_43 (v := (0 : Int32)) rfl ?_
      exact J_iret dX9_given_44 rfl rfl
    · refine J_aload_n dX9_given_34 rfl ?_
      refine J_bipush dX9_given_35 (v := (107 : Int32)) rfl ?_
      refine J_callV_w (M' := m9_worked) (as := [_]) dX9_given_37 lX9_152 sm9_worked sm9_worked_w jo_mPl_86 hci_X9 (by decide) rfl (Nat.le_of_ble_eq_true rfl) (c9_worked _ _) (fun r19 => ?_)
      refine J_goto dX9_given_40 (tgt := 44) (by decide) ?_
      exact J_iret dX9_given_44 rfl rfl
  · refine J_aload_n dX9_given_45 rfl ?_
    refine J_iconst dX9_given_46 (v := (1 : Int32)) rfl ?_
    refine J_callV_i (M' := m9_hasText) (as := [_]) dX9_given_47 lX9_149 sm9_hasText sm9_hasText_w jo_mPl_86 hci_X9 (by decide) rfl (Nat.le_of_ble_eq_true rfl) (c9_hasText _ _) (fun r14 => ?_)
    refine J_if_eq dX9_given_50 (tgt := 63) (by decide) (fun c15 => ?_) (fun c15 => ?_)
    · refine J_iconst dX9_given_63 (v := (1 : Int32)) rfl ?_
      refine J_iload_n dX9_given_64 rfl ?_
      refine J_iconst dX9_given_65 (v := (4 : Int32)) rfl ?_
      refine J_idiv dX9_given_66 (by decide) ?_
      refine J_iadd dX9_given_67 ?_
      refine JF_drop [0, 1, 2, 3, 4] ?_
      exact c9_given_b68 _ _
    · refine J_aload_n dX9_given_53 rfl ?_
      refine J_sipush dX9_given_54 (v := (159 : Int32)) rfl ?_
      refine J_callV_w (M' := m9_worked) (as := [_]) dX9_given_57 lX9_152 sm9_worked sm9_worked_w jo_mPl_86 hci_X9 (by decide) rfl (Nat.le_of_ble_eq_true rfl) (c9_worked _ _) (fun r16 => ?_)
      refine J_goto dX9_given_60 (tgt := 68) (by decide) ?_
      refine JF_drop [0, 1, 2, 3, 4] ?_
      exact c9_given_b68 _ _
set_option maxRecDepth 20000 in
theorem c9_law (a1 : Int32) (a2 : Int32) (a3 : Int32) (a4 : Int32) (μ : JMu) : ∀ b, f9_law a1 a2 a3 a4 μ = some b → JC m9_law 3 mPl [.ref 86, .int (a1), .int (a2), .int (a3), .int (a4)] μ (some (.int b.1), b.2) := by
  refine JC_of (emb := (fun b : Int32 × JMu => (some (.int b.1), b.2))) (L0 := [some (.ref 86), some (.int (a1)), some (.int (a2)), some (.int (a3)), some (.int (a4))]) sm9_law (Nat.le_of_ble_eq_true rfl) rfl ?_
  unfold f9_law
  refine J_iload_n dX9_law_0 rfl ?_
  refine J_iconst dX9_law_1 (v := (0 : Int32)) rfl ?_
  refine J_iconst dX9_law_2 (v := (1 : Int32)) rfl ?_
  refine J_callS_i (M' := m9_within) (as := [_, _, _]) dX9_law_3 lX9_76 sm9_within sm9_within_w (by decide) rfl (Nat.le_of_ble_eq_true rfl) (c9_within _ _ _ _) (fun r5 => ?_)
  refine J_if_eq dX9_law_6 (tgt := 21) (by decide) (fun c6 => ?_) (fun c6 => ?_)
  · refine J_aload_n dX9_law_21 rfl ?_
    refine J_ldc dX9_law_22 kX9_80 ?_
    refine J_callV_w (M' := m9_finding) (as := [_]) dX9_law_24 lX9_81 sm9_finding sm9_finding_w jo_mPl_86 hci_X9 (by decide) rfl (Nat.le_of_ble_eq_true rfl) (c9_finding _ _) (fun r7 => ?_)
    exact J_iret dX9_law_27 rfl rfl
  · refine J_aload_n dX9_law_9 rfl ?_
    refine J_iload_n dX9_law_10 rfl ?_
    refine J_iload_n dX9_law_11 rfl ?_
    refine J_iload_n dX9_law_12 rfl ?_
    refine J_iload dX9_law_13 rfl ?_
    refine J_callV_w (M' := m9_given) (as := [_, _, _, _]) dX9_law_15 lX9_158 sm9_given sm9_given_w jo_mPl_86 hci_X9 (by decide) rfl (Nat.le_of_ble_eq_true rfl) (c9_given _ _ _ _ _) (fun r8 => ?_)
    refine J_goto dX9_law_18 (tgt := 27) (by decide) ?_
    exact J_iret dX9_law_27 rfl rfl
set_option maxRecDepth 20000 in
theorem c9_isCell (a1 : Int32) (μ : JMu) : ∀ b, f9_isCell a1 = some b → JC m9_isCell 1 mPl [.int (a1)] μ (some (.int b), μ) := by
  refine JC_of (emb := (fun b : Int32 => (some (.int b), μ))) (L0 := [some (.int (a1))]) sm9_isCell (Nat.le_of_ble_eq_true rfl) rfl ?_
  unfold f9_isCell
  refine J_iload_n dX9_isCell_0 rfl ?_
  refine J_iconst dX9_isCell_1 (v := (0 : Int32)) rfl ?_
  refine J_bipush dX9_isCell_2 (v := (23 : Int32)) rfl ?_
  refine J_callS_i (M' := m9_within) (as := [_, _, _]) dX9_isCell_4 lX9_76 sm9_within sm9_within_w (by decide) rfl (Nat.le_of_ble_eq_true rfl) (c9_within _ _ _ _) (fun r3 => ?_)
  refine JF_chk (fun c4 => ?_)
  exact J_zret dX9_isCell_7 rfl c4 rfl
set_option maxRecDepth 20000 in
theorem c9_columnsLit (a1 : Int32) (μ : JMu) : ∀ b, f9_columnsLit a1 = some b → JC m9_columnsLit 0 mPl [.int (a1)] μ (some (.int b), μ) := by
  refine JC_of (emb := (fun b : Int32 => (some (.int b), μ))) (L0 := [some (.int (a1))]) sm9_columnsLit (Nat.le_of_ble_eq_true rfl) rfl ?_
  unfold f9_columnsLit
  refine J_iload_n dX9_columnsLit_0 rfl ?_
  refine J_bipush dX9_columnsLit_1 (v := (8 : Int32)) rfl ?_
  refine J_icmp_gt dX9_columnsLit_3 (tgt := 21) (by decide) (fun c2 => ?_) (fun c2 => ?_)
  · refine J_iconst dX9_columnsLit_21 (v := (1 : Int32)) rfl ?_
    refine J_bipush dX9_columnsLit_22 (v := (16 : Int32)) rfl ?_
    refine J_iload_n dX9_columnsLit_24 rfl ?_
    refine J_isub dX9_columnsLit_25 ?_
    refine J_ishl dX9_columnsLit_26 ?_
    refine J_iconst dX9_columnsLit_27 (v := (1 : Int32)) rfl ?_
    refine J_isub dX9_columnsLit_28 ?_
    exact J_iret dX9_columnsLit_29 rfl rfl
  · refine J_sipush dX9_columnsLit_6 (v := (255 : Int32)) rfl ?_
    refine J_bipush dX9_columnsLit_9 (v := (8 : Int32)) rfl ?_
    refine J_iload_n dX9_columnsLit_11 rfl ?_
    refine J_isub dX9_columnsLit_12 ?_
    refine J_ishl dX9_columnsLit_13 ?_
    refine J_sipush dX9_columnsLit_14 (v := (255 : Int32)) rfl ?_
    refine J_iand dX9_columnsLit_17 ?_
    refine J_goto dX9_columnsLit_18 (tgt := 29) (by decide) ?_
    exact J_iret dX9_columnsLit_29 rfl rfl
set_option maxRecDepth 20000 in
theorem c9_litBy (a1 : Int32) (μ : JMu) : ∀ b, f9_litBy a1 = some b → JC m9_litBy 1 mPl [.int (a1)] μ (some (.int b), μ) := by
  refine JC_of (emb := (fun b : Int32 => (some (.int b), μ))) (L0 := [some (.int (a1))]) sm9_litBy (Nat.le_of_ble_eq_true rfl) rfl ?_
  unfold f9_litBy
  refine J_iload_n dX9_litBy_0 rfl ?_
  refine J_callS_i (M' := m9_columnsLit) (as := [_]) dX9_litBy_1 lX9_162 sm9_columnsLit sm9_columnsLit_w (by decide) rfl (Nat.le_of_ble_eq_true rfl) (c9_columnsLit _ _) (fun r2 => ?_)
  refine J_ldc dX9_litBy_4 kX9_165 ?_
  refine J_imul dX9_litBy_6 ?_
  exact J_iret dX9_litBy_7 rfl rfl
set_option maxRecDepth 20000 in
theorem c9_phase (μ : JMu) : ∀ b, f9_phase  μ = some b → JC m9_phase 0 mPl [.ref 86] μ (some (.int b), μ) := by
  refine JC_of (emb := (fun b : Int32 => (some (.int b), μ))) (L0 := [some (.ref 86)]) sm9_phase (Nat.le_of_ble_eq_true rfl) rfl ?_
  unfold f9_phase
  refine J_aload_n dX9_phase_0 rfl ?_
  refine J_getR dX9_phase_1 wX9_9 rfl jo_mPl_86 jr_86_0 ?_
  refine J_iconst dX9_phase_4 (v := (0 : Int32)) rfl ?_
  refine J_iald dX9_phase_5 ji_mPl_87 jl_87 (jin_spec (by decide)) (j := 0) rfl ?_
  refine J_bipush dX9_phase_6 (v := (16 : Int32)) rfl ?_
  refine J_irem dX9_phase_8 (by decide) ?_
  exact J_iret dX9_phase_9 rfl rfl
set_option maxRecDepth 20000 in
theorem c9_litNow (μ : JMu) : ∀ b, f9_litNow  μ = some b → JC m9_litNow 2 mPl [.ref 86] μ (some (.int b), μ) := by
  refine JC_of (emb := (fun b : Int32 => (some (.int b), μ))) (L0 := [some (.ref 86)]) sm9_litNow (Nat.le_of_ble_eq_true rfl) rfl ?_
  unfold f9_litNow
  refine J_aload_n dX9_litNow_0 rfl ?_
  refine J_callV_i (M' := m9_phase) (as := []) dX9_litNow_1 lX9_166 sm9_phase sm9_phase_w jo_mPl_86 hci_X9 (by decide) rfl (Nat.le_of_ble_eq_true rfl) (c9_phase  _) (fun r3 => ?_)
  refine J_callS_i (M' := m9_litBy) (as := [_]) dX9_litNow_4 lX9_169 sm9_litBy sm9_litBy_w (by decide) rfl (Nat.le_of_ble_eq_true rfl) (c9_litBy _ _) (fun r4 => ?_)
  exact J_iret dX9_litNow_7 rfl rfl
set_option maxRecDepth 20000 in
theorem c9_isCloudy (μ : JMu) : ∀ b, f9_isCloudy  μ = some b → JC m9_isCloudy 3 mPl [.ref 86] μ (some (.int b.1), b.2) := by
  refine JC_of (emb := (fun b : Int32 × JMu => (some (.int b.1), b.2))) (L0 := [some (.ref 86)]) sm9_isCloudy (Nat.le_of_ble_eq_true rfl) rfl ?_
  unfold f9_isCloudy
  refine J_aload_n dX9_isCloudy_0 rfl ?_
  refine J_iconst dX9_isCloudy_1 (v := (0 : Int32)) rfl ?_
  refine J_aload_n dX9_isCloudy_2 rfl ?_
  refine J_getR dX9_isCloudy_3 wX9_9 rfl jo_mPl_86 jr_86_0 ?_
  refine J_iconst dX9_isCloudy_6 (v := (0 : Int32)) rfl ?_
  refine J_iald dX9_isCloudy_7 ji_mPl_87 jl_87 (jin_spec (by decide)) (j := 0) rfl ?_
  refine J_aload_n dX9_isCloudy_8 rfl ?_
  refine J_callV_i (M' := m9_phase) (as := []) dX9_isCloudy_9 lX9_166 sm9_phase sm9_phase_w jo_mPl_86 hci_X9 (by decide) rfl (Nat.le_of_ble_eq_true rfl) (c9_phase  _) (fun r6 => ?_)
  refine J_aload_n dX9_isCloudy_12 rfl ?_
  refine J_getR dX9_isCloudy_13 wX9_9 rfl jo_mPl_86 jr_86_0 ?_
  refine J_iconst dX9_isCloudy_16 (v := (2 : Int32)) rfl ?_
  refine J_iald dX9_isCloudy_17 ji_mPl_87 jl_87 (jin_spec (by decide)) (j := 2) rfl ?_
  refine J_callV_w (M' := m9_given) (as := [_, _, _, _]) dX9_isCloudy_18 lX9_158 sm9_given sm9_given_w jo_mPl_86 hci_X9 (by decide) rfl (Nat.le_of_ble_eq_true rfl) (c9_given _ _ _ _ _) (fun r7 => ?_)
  refine J_if_eq dX9_isCloudy_21 (tgt := 28) (by decide) (fun c8 => ?_) (fun c8 => ?_)
  · refine J_iconst dX9_isCloudy_28 (v := (0 : Int32)) rfl ?_
    exact J_zret dX9_isCloudy_29 rfl (Or.inl rfl) rfl
  · refine J_iconst dX9_isCloudy_24 (v := (1 : Int32)) rfl ?_
    refine J_goto dX9_isCloudy_25 (tgt := 29) (by decide) ?_
    exact J_zret dX9_isCloudy_29 rfl (Or.inr rfl) rfl
set_option maxRecDepth 20000 in
theorem c9_seenNow (μ : JMu) : ∀ b, f9_seenNow  μ = some b → JC m9_seenNow 4 mPl [.ref 86] μ (some (.int b.1), b.2) := by
  refine JC_of (emb := (fun b : Int32 × JMu => (some (.int b.1), b.2))) (L0 := [some (.ref 86)]) sm9_seenNow (Nat.le_of_ble_eq_true rfl) rfl ?_
  unfold f9_seenNow
  refine J_aload_n dX9_seenNow_0 rfl ?_
  refine J_callV_w (M' := m9_isCloudy) (as := []) dX9_seenNow_1 lX9_172 sm9_isCloudy sm9_isCloudy_w jo_mPl_86 hci_X9 (by decide) rfl (Nat.le_of_ble_eq_true rfl) (c9_isCloudy  _) (fun r4 => ?_)
  refine J_if_eq dX9_seenNow_4 (tgt := 11) (by decide) (fun c5 => ?_) (fun c5 => ?_)
  · refine J_aload_n dX9_seenNow_11 rfl ?_
    refine J_callV_i (M' := m9_litNow) (as := []) dX9_seenNow_12 lX9_176 sm9_litNow sm9_litNow_w jo_mPl_86 hci_X9 (by decide) rfl (Nat.le_of_ble_eq_true rfl) (c9_litNow  _) (fun r6 => ?_)
    exact J_iret dX9_seenNow_15 rfl rfl
  · refine J_iconst dX9_seenNow_7 (v := (0 : Int32)) rfl ?_
    refine J_goto dX9_seenNow_8 (tgt := 15) (by decide) ?_
    exact J_iret dX9_seenNow_15 rfl rfl
set_option maxRecDepth 20000 in
theorem c9_at (a1 : Int32) (a2 : Int32) (μ : JMu) : ∀ b, f9_at a1 a2 = some b → JC m9_at 0 mPl [.int (a1), .int (a2)] μ (some (.int b), μ) := by
  refine JC_of (emb := (fun b : Int32 => (some (.int b), μ))) (L0 := [some (.int (a1)), some (.int (a2))]) sm9_at (Nat.le_of_ble_eq_true rfl) rfl ?_
  unfold f9_at
  refine J_bipush dX9_at_0 (v := (6 : Int32)) rfl ?_
  refine J_iconst dX9_at_2 (v := (5 : Int32)) rfl ?_
  refine J_iload_n dX9_at_3 rfl ?_
  refine J_imul dX9_at_4 ?_
  refine J_iadd dX9_at_5 ?_
  refine J_iload_n dX9_at_6 rfl ?_
  refine J_iadd dX9_at_7 ?_
  exact J_iret dX9_at_8 rfl rfl
set_option maxRecDepth 20000 in
theorem c9_tenantIs (a1 : Int32) (a2 : Int32) (μ : JMu) : ∀ b, f9_tenantIs a1 a2 μ = some b → JC m9_tenantIs 1 mPl [.ref 86, .int (a1), .int (a2)] μ (some (.int b), μ) := by
  refine JC_of (emb := (fun b : Int32 => (some (.int b), μ))) (L0 := [some (.ref 86), some (.int (a1)), some (.int (a2))]) sm9_tenantIs (Nat.le_of_ble_eq_true rfl) rfl ?_
  unfold f9_tenantIs
  refine J_aload_n dX9_tenantIs_0 rfl ?_
  refine J_getR dX9_tenantIs_1 wX9_9 rfl jo_mPl_86 jr_86_0 ?_
  refine J_iload_n dX9_tenantIs_4 rfl ?_
  refine J_iload_n dX9_tenantIs_5 rfl ?_
  refine J_callS_i (M' := m9_at) (as := [_, _]) dX9_tenantIs_6 lX9_204 sm9_at sm9_at_w (by decide) rfl (Nat.le_of_ble_eq_true rfl) (c9_at _ _ _) (fun r3 => ?_)
  refine JF_chk (fun c4 => ?_)
  refine J_iald dX9_tenantIs_9 ji_mPl_87 jl_87 (jin_spec c4) rfl ?_
  exact J_iret dX9_tenantIs_10 rfl rfl
set_option maxRecDepth 20000 in
theorem c9_holders_b35 (μ : JMu) (k4 : Int32 → Int32 → Int32 → JMu → Option (Int32)) (hk4 : ∀ (v1 : Int32) (v2 : Int32) (v3 : Int32), JF m9_holders 2 mPl (fun b : Int32 => (some (.int b), μ)) 4 [some (.ref 86), some (.int (v1)), some (.int (v2)), some (.int (v3))] [] μ (k4 v1 v2 v3 μ)) (v1 : Int32) (v3 : Int32) (s0 : Int32) (s1 : Int32) : JF m9_holders 2 mPl (fun b : Int32 => (some (.int b), μ)) 35 [some (.ref 86), some (.int (v1)), none, some (.int (v3))] [.int (s0), .int (s1)] μ (f9_holders_b35 k4 v1 v3 s0 s1 μ) := by
  unfold f9_holders_b35
  refine J_ior dX9_holders_35 ?_
  refine J_istore_n dX9_holders_36  (by decide) rfl ?_
  refine J_iinc dX9_holders_37 rfl (c0 := (1 : Int32)) rfl (by decide) rfl ?_
  refine J_goto dX9_holders_40 (tgt := 4) (by decide) ?_
  exact hk4 _ _ _
set_option maxRecDepth 20000 in
theorem c9_holders_b4 (μ : JMu) (n : Nat) : ∀ (v1 : Int32) (v2 : Int32) (v3 : Int32), JF m9_holders 2 mPl (fun b : Int32 => (some (.int b), μ)) 4 [some (.ref 86), some (.int (v1)), some (.int (v2)), some (.int (v3))] [] μ (f9_holders_b4 n v1 v2 v3 μ) := by
  induction n with
  | zero => intros; exact JF_none
  | succ n ih =>
    intro v1 v2 v3
    rw [f9_holders_b4]
    refine J_iload_n dX9_holders_4 rfl ?_
    refine J_aload_n dX9_holders_5 rfl ?_
    refine J_getR dX9_holders_6 wX9_9 rfl jo_mPl_86 jr_86_0 ?_
    refine J_iconst dX9_holders_9 (v := (1 : Int32)) rfl ?_
    refine J_iald dX9_holders_10 ji_mPl_87 jl_87 (jin_spec (by decide)) (j := 1) rfl ?_
    refine J_icmp_ge dX9_holders_11 (tgt := 43) (by decide) (fun c6 => ?_) (fun c6 => ?_)
    · refine J_iload_n dX9_holders_43 rfl ?_
      exact J_iret dX9_holders_44 rfl rfl
    · refine J_iload_n dX9_holders_14 rfl ?_
      refine J_aload_n dX9_holders_15 rfl ?_
      refine J_iload_n dX9_holders_16 rfl ?_
      refine J_iconst dX9_holders_17 (v := (2 : Int32)) rfl ?_
      refine J_callV_i (M' := m9_tenantIs) (as := [_, _]) dX9_holders_18 lX9_179 sm9_tenantIs sm9_tenantIs_w jo_mPl_86 hci_X9 (by decide) rfl (Nat.le_of_ble_eq_true rfl) (c9_tenantIs _ _ _) (fun r7 => ?_)
      refine J_iload_n dX9_holders_21 rfl ?_
      refine J_callS_i (M' := m9_hasBit) (as := [_, _]) dX9_holders_22 lX9_182 sm9_hasBit sm9_hasBit_w (by decide) rfl (Nat.le_of_ble_eq_true rfl) (c9_hasBit _ _ _) (fun r8 => ?_)
      refine J_if_eq dX9_holders_25 (tgt := 34) (by decide) (fun c9 => ?_) (fun c9 => ?_)
      · refine J_iconst dX9_holders_34 (v := (0 : Int32)) rfl ?_
        refine JF_drop [2] ?_
        exact c9_holders_b35 μ _ ih _ _ _ _
      · refine J_iconst dX9_holders_28 (v := (1 : Int32)) rfl ?_
        refine J_iload_n dX9_holders_29 rfl ?_
        refine J_ishl dX9_holders_30 ?_
        refine J_goto dX9_holders_31 (tgt := 35) (by decide) ?_
        refine JF_drop [2] ?_
        exact c9_holders_b35 μ _ ih _ _ _ _
set_option maxRecDepth 20000 in
theorem c9_holders (a1 : Int32) (μ : JMu) : ∀ b, f9_holders a1 μ = some b → JC m9_holders 2 mPl [.ref 86, .int (a1)] μ (some (.int b), μ) := by
  refine JC_of (emb := (fun b : Int32 => (some (.int b), μ))) (L0 := [some (.ref 86), some (.int (a1)), none, none]) sm9_holders (Nat.le_of_ble_eq_true rfl) rfl ?_
  unfold f9_holders
  refine J_iconst dX9_holders_0 (v := (0 : Int32)) rfl ?_
  refine J_istore_n dX9_holders_1  (by decide) rfl ?_
  refine J_iconst dX9_holders_2 (v := (0 : Int32)) rfl ?_
  refine J_istore_n dX9_holders_3  (by decide) rfl ?_
  exact c9_holders_b4 μ jN _ _ _
set_option maxRecDepth 20000 in
theorem c9_rentOf (a1 : Int32) (μ : JMu) : ∀ b, f9_rentOf a1 μ = some b → JC m9_rentOf 3 mPl [.ref 86, .int (a1)] μ (some (.int b.1), b.2) := by
  refine JC_of (emb := (fun b : Int32 × JMu => (some (.int b.1), b.2))) (L0 := [some (.ref 86), some (.int (a1))]) sm9_rentOf (Nat.le_of_ble_eq_true rfl) rfl ?_
  unfold f9_rentOf
  refine J_aload_n dX9_rentOf_0 rfl ?_
  refine J_iconst dX9_rentOf_1 (v := (1 : Int32)) rfl ?_
  refine J_iload_n dX9_rentOf_2 rfl ?_
  refine J_bipush dX9_rentOf_3 (v := (8 : Int32)) rfl ?_
  refine J_idiv dX9_rentOf_5 (by decide) ?_
  refine J_iload_n dX9_rentOf_6 rfl ?_
  refine J_bipush dX9_rentOf_7 (v := (8 : Int32)) rfl ?_
  refine J_irem dX9_rentOf_9 (by decide) ?_
  refine J_aload_n dX9_rentOf_10 rfl ?_
  refine J_iload_n dX9_rentOf_11 rfl ?_
  refine J_callV_i (M' := m9_holders) (as := [_]) dX9_rentOf_12 lX9_186 sm9_holders sm9_holders_w jo_mPl_86 hci_X9 (by decide) rfl (Nat.le_of_ble_eq_true rfl) (c9_holders _ _) (fun r4 => ?_)
  refine J_callS_i (M' := m9_bits) (as := [_]) dX9_rentOf_15 lX9_189 sm9_bits sm9_bits_w (by decide) rfl (Nat.le_of_ble_eq_true rfl) (c9_bits _ _) (fun r5 => ?_)
  refine J_callV_w (M' := m9_given) (as := [_, _, _, _]) dX9_rentOf_18 lX9_158 sm9_given sm9_given_w jo_mPl_86 hci_X9 (by decide) rfl (Nat.le_of_ble_eq_true rfl) (c9_given _ _ _ _ _) (fun r6 => ?_)
  exact J_iret dX9_rentOf_21 rfl rfl
set_option maxRecDepth 20000 in
theorem c9_ofCell_b16 (μ : JMu) : JF m9_ofCell 5 mPl (fun b : Int32 × JMu => (some (.int b.1), b.2)) 16 [some (.ref 86), none, none] [] μ (f9_ofCell_b16  μ) := by
  unfold f9_ofCell_b16
  refine J_aload_n dX9_ofCell_16 rfl ?_
  refine J_ldc dX9_ofCell_17 kX9_80 ?_
  refine J_callV_w (M' := m9_finding) (as := [_]) dX9_ofCell_19 lX9_81 sm9_finding sm9_finding_w jo_mPl_86 hci_X9 (by decide) rfl (Nat.le_of_ble_eq_true rfl) (c9_finding _ _) (fun r13 => ?_)
  exact J_iret dX9_ofCell_22 rfl rfl
set_option maxRecDepth 20000 in
theorem c9_ofCell (a1 : Int32) (a2 : Int32) (μ : JMu) : ∀ b, f9_ofCell a1 a2 μ = some b → JC m9_ofCell 5 mPl [.ref 86, .int (a1), .int (a2)] μ (some (.int b.1), b.2) := by
  refine JC_of (emb := (fun b : Int32 × JMu => (some (.int b.1), b.2))) (L0 := [some (.ref 86), some (.int (a1)), some (.int (a2))]) sm9_ofCell (Nat.le_of_ble_eq_true rfl) rfl ?_
  unfold f9_ofCell
  refine J_iload_n dX9_ofCell_0 rfl ?_
  refine J_callS_i (M' := m9_isCell) (as := [_]) dX9_ofCell_1 lX9_192 sm9_isCell sm9_isCell_w (by decide) rfl (Nat.le_of_ble_eq_true rfl) (c9_isCell _ _) (fun r14 => ?_)
  refine J_if_eq dX9_ofCell_4 (tgt := 16) (by decide) (fun c15 => ?_) (fun c15 => ?_)
  · refine JF_drop [1, 2] ?_
    exact c9_ofCell_b16  _
  · refine J_iload_n dX9_ofCell_7 rfl ?_
    refine J_iconst dX9_ofCell_8 (v := (0 : Int32)) rfl ?_
    refine J_iconst dX9_ofCell_9 (v := (3 : Int32)) rfl ?_
    refine J_callS_i (M' := m9_within) (as := [_, _, _]) dX9_ofCell_10 lX9_76 sm9_within sm9_within_w (by decide) rfl (Nat.le_of_ble_eq_true rfl) (c9_within _ _ _ _) (fun r16 => ?_)
    refine J_if_ne dX9_ofCell_13 (tgt := 23) (by decide) (fun c17 => ?_) (fun c17 => ?_)
    · refine JF_drop [1, 2] ?_
      exact c9_ofCell_b16  _
    · refine J_iload_n dX9_ofCell_23 rfl ?_
      refine JF_ite (fun c18 => ?_) (fun c18 => ?_)
      · refine J_tabIn (0 : Int32) dX9_ofCell_24 (tgt := 52)  c18 (by decide) (by decide) rfl (by decide) ?_
        refine J_aload_n dX9_ofCell_52 rfl ?_
        refine J_callV_i (M' := m9_litNow) (as := []) dX9_ofCell_53 lX9_176 sm9_litNow sm9_litNow_w jo_mPl_86 hci_X9 (by decide) rfl (Nat.le_of_ble_eq_true rfl) (c9_litNow  _) (fun r19 => ?_)
        refine J_iload_n dX9_ofCell_56 rfl ?_
        refine J_ishr dX9_ofCell_57 ?_
        refine J_iconst dX9_ofCell_58 (v := (1 : Int32)) rfl ?_
        refine J_iand dX9_ofCell_59 ?_
        exact J_iret dX9_ofCell_60 rfl rfl
      · refine JF_ite (fun c20 => ?_) (fun c20 => ?_)
        · refine J_tabIn (1 : Int32) dX9_ofCell_24 (tgt := 61)  c20 (by decide) (by decide) rfl (by decide) ?_
          refine J_aload_n dX9_ofCell_61 rfl ?_
          refine J_callV_w (M' := m9_seenNow) (as := []) dX9_ofCell_62 lX9_195 sm9_seenNow sm9_seenNow_w jo_mPl_86 hci_X9 (by decide) rfl (Nat.le_of_ble_eq_true rfl) (c9_seenNow  _) (fun r21 => ?_)
          refine J_iload_n dX9_ofCell_65 rfl ?_
          refine J_ishr dX9_ofCell_66 ?_
          refine J_iconst dX9_ofCell_67 (v := (1 : Int32)) rfl ?_
          refine J_iand dX9_ofCell_68 ?_
          exact J_iret dX9_ofCell_69 rfl rfl
        · refine JF_ite (fun c22 => ?_) (fun c22 => ?_)
          · refine J_tabIn (2 : Int32) dX9_ofCell_24 (tgt := 70)  c22 (by decide) (by decide) rfl (by decide) ?_
            refine J_aload_n dX9_ofCell_70 rfl ?_
            refine J_iload_n dX9_ofCell_71 rfl ?_
            refine J_callV_w (M' := m9_rentOf) (as := [_]) dX9_ofCell_72 lX9_198 sm9_rentOf sm9_rentOf_w jo_mPl_86 hci_X9 (by decide) rfl (Nat.le_of_ble_eq_true rfl) (c9_rentOf _ _) (fun r23 => ?_)
            exact J_iret dX9_ofCell_75 rfl rfl
          · refine J_tabOut dX9_ofCell_24 (tgt := 76) (by have z0 := lv_neT c18 (k := (0 : Int32)) (a := 0) rfl; have z1 := lv_neT c20 (k := (1 : Int32)) (a := 1) rfl; have z2 := lv_neT c22 (k := (2 : Int32)) (a := 2) rfl; omega) (by decide) ?_
            refine J_aload_n dX9_ofCell_76 rfl ?_
            refine J_iload_n dX9_ofCell_77 rfl ?_
            refine J_callV_i (M' := m9_holders) (as := [_]) dX9_ofCell_78 lX9_186 sm9_holders sm9_holders_w jo_mPl_86 hci_X9 (by decide) rfl (Nat.le_of_ble_eq_true rfl) (c9_holders _ _) (fun r24 => ?_)
            exact J_iret dX9_ofCell_81 rfl rfl
set_option maxRecDepth 20000 in
theorem c9_lit (a1 : Int32) (μ : JMu) : ∀ b, f9_lit a1 μ = some b → JC m9_lit 2 mPl [.ref 86, .int (a1)] μ (some (.int b.1), b.2) := by
  refine JC_of (emb := (fun b : Int32 × JMu => (some (.int b.1), b.2))) (L0 := [some (.ref 86), some (.int (a1))]) sm9_lit (Nat.le_of_ble_eq_true rfl) rfl ?_
  unfold f9_lit
  refine J_iload_n dX9_lit_0 rfl ?_
  refine J_iconst dX9_lit_1 (v := (0 : Int32)) rfl ?_
  refine J_bipush dX9_lit_2 (v := (15 : Int32)) rfl ?_
  refine J_callS_i (M' := m9_within) (as := [_, _, _]) dX9_lit_4 lX9_76 sm9_within sm9_within_w (by decide) rfl (Nat.le_of_ble_eq_true rfl) (c9_within _ _ _ _) (fun r5 => ?_)
  refine J_if_eq dX9_lit_7 (tgt := 17) (by decide) (fun c6 => ?_) (fun c6 => ?_)
  · refine J_aload_n dX9_lit_17 rfl ?_
    refine J_ldc dX9_lit_18 kX9_80 ?_
    refine J_callV_w (M' := m9_finding) (as := [_]) dX9_lit_20 lX9_81 sm9_finding sm9_finding_w jo_mPl_86 hci_X9 (by decide) rfl (Nat.le_of_ble_eq_true rfl) (c9_finding _ _) (fun r7 => ?_)
    exact J_iret dX9_lit_23 rfl rfl
  · refine J_iload_n dX9_lit_10 rfl ?_
    refine J_callS_i (M' := m9_litBy) (as := [_]) dX9_lit_11 lX9_169 sm9_litBy sm9_litBy_w (by decide) rfl (Nat.le_of_ble_eq_true rfl) (c9_litBy _ _) (fun r8 => ?_)
    refine J_goto dX9_lit_14 (tgt := 23) (by decide) ?_
    exact J_iret dX9_lit_23 rfl rfl
set_option maxRecDepth 20000 in
theorem c9_weather (a1 : Int32) (μ : JMu) : ∀ b, f9_weather a1 μ = some b → JC m9_weather 1 mPl [.ref 86, .int (a1)] μ (some (.int b.1), b.2) := by
  refine JC_of (emb := (fun b : Int32 × JMu => (some (.int b.1), b.2))) (L0 := [some (.ref 86), some (.int (a1))]) sm9_weather (Nat.le_of_ble_eq_true rfl) rfl ?_
  unfold f9_weather
  refine J_iload_n dX9_weather_0 rfl ?_
  refine J_iconst dX9_weather_1 (v := (0 : Int32)) rfl ?_
  refine J_bipush dX9_weather_2 (v := (9 : Int32)) rfl ?_
  refine J_callS_i (M' := m9_within) (as := [_, _, _]) dX9_weather_4 lX9_76 sm9_within sm9_within_w (by decide) rfl (Nat.le_of_ble_eq_true rfl) (c9_within _ _ _ _) (fun r5 => ?_)
  refine J_if_eq dX9_weather_7 (tgt := 19) (by decide) (fun c6 => ?_) (fun c6 => ?_)
  · refine J_aload_n dX9_weather_19 rfl ?_
    refine J_ldc dX9_weather_20 kX9_80 ?_
    refine J_callV_w (M' := m9_finding) (as := [_]) dX9_weather_22 lX9_81 sm9_finding sm9_finding_w jo_mPl_86 hci_X9 (by decide) rfl (Nat.le_of_ble_eq_true rfl) (c9_finding _ _) (fun r7 => ?_)
    exact J_iret dX9_weather_25 rfl rfl
  · refine J_aload_n dX9_weather_10 rfl ?_
    refine J_iconst dX9_weather_11 (v := (2 : Int32)) rfl ?_
    refine J_iload_n dX9_weather_12 rfl ?_
    refine J_callV_w (M' := m9_turn) (as := [_, _]) dX9_weather_13 lX9_201 sm9_turn sm9_turn_w jo_mPl_86 hci_X9 (by decide) rfl (Nat.le_of_ble_eq_true rfl) (c9_turn _ _ _) (fun r8 => ?_)
    refine J_goto dX9_weather_16 (tgt := 25) (by decide) ?_
    exact J_iret dX9_weather_25 rfl rfl
set_option maxRecDepth 20000 in
theorem c9_isTenant (a1 : Int32) (μ : JMu) : ∀ b, f9_isTenant a1 μ = some b → JC m9_isTenant 1 mPl [.ref 86, .int (a1)] μ (some (.int b), μ) := by
  refine JC_of (emb := (fun b : Int32 => (some (.int b), μ))) (L0 := [some (.ref 86), some (.int (a1))]) sm9_isTenant (Nat.le_of_ble_eq_true rfl) rfl ?_
  unfold f9_isTenant
  refine J_iload_n dX9_isTenant_0 rfl ?_
  refine J_iconst dX9_isTenant_1 (v := (0 : Int32)) rfl ?_
  refine J_aload_n dX9_isTenant_2 rfl ?_
  refine J_getR dX9_isTenant_3 wX9_9 rfl jo_mPl_86 jr_86_0 ?_
  refine J_iconst dX9_isTenant_6 (v := (1 : Int32)) rfl ?_
  refine J_iald dX9_isTenant_7 ji_mPl_87 jl_87 (jin_spec (by decide)) (j := 1) rfl ?_
  refine J_iconst dX9_isTenant_8 (v := (1 : Int32)) rfl ?_
  refine J_isub dX9_isTenant_9 ?_
  refine J_callS_i (M' := m9_within) (as := [_, _, _]) dX9_isTenant_10 lX9_76 sm9_within sm9_within_w (by decide) rfl (Nat.le_of_ble_eq_true rfl) (c9_within _ _ _ _) (fun r4 => ?_)
  refine JF_chk (fun c5 => ?_)
  exact J_zret dX9_isTenant_13 rfl c5 rfl
set_option maxRecDepth 20000 in
theorem c9_isOut (a1 : Int32) (μ : JMu) : ∀ b, f9_isOut a1 μ = some b → JC m9_isOut 2 mPl [.ref 86, .int (a1)] μ (some (.int b), μ) := by
  refine JC_of (emb := (fun b : Int32 => (some (.int b), μ))) (L0 := [some (.ref 86), some (.int (a1))]) sm9_isOut (Nat.le_of_ble_eq_true rfl) rfl ?_
  unfold f9_isOut
  refine J_aload_n dX9_isOut_0 rfl ?_
  refine J_iload_n dX9_isOut_1 rfl ?_
  refine J_iconst dX9_isOut_2 (v := (4 : Int32)) rfl ?_
  refine J_callV_i (M' := m9_tenantIs) (as := [_, _]) dX9_isOut_3 lX9_179 sm9_tenantIs sm9_tenantIs_w jo_mPl_86 hci_X9 (by decide) rfl (Nat.le_of_ble_eq_true rfl) (c9_tenantIs _ _ _) (fun r3 => ?_)
  refine J_iconst dX9_isOut_6 (v := (1 : Int32)) rfl ?_
  refine J_icmp_ne dX9_isOut_7 (tgt := 14) (by decide) (fun c4 => ?_) (fun c4 => ?_)
  · refine J_iconst dX9_isOut_10 (v := (1 : Int32)) rfl ?_
    refine J_goto dX9_isOut_11 (tgt := 15) (by decide) ?_
    exact J_zret dX9_isOut_15 rfl (Or.inr rfl) rfl
  · refine J_iconst dX9_isOut_14 (v := (0 : Int32)) rfl ?_
    exact J_zret dX9_isOut_15 rfl (Or.inl rfl) rfl
set_option maxRecDepth 20000 in
theorem c9_isKindM (a1 : Int32) (μ : JMu) : ∀ b, f9_isKindM a1 = some b → JC m9_isKindM 1 mPl [.int (a1)] μ (some (.int b), μ) := by
  refine JC_of (emb := (fun b : Int32 => (some (.int b), μ))) (L0 := [some (.int (a1))]) sm9_isKindM (Nat.le_of_ble_eq_true rfl) rfl ?_
  unfold f9_isKindM
  refine J_iload_n dX9_isKindM_0 rfl ?_
  refine J_iconst dX9_isKindM_1 (v := (0 : Int32)) rfl ?_
  refine J_bipush dX9_isKindM_2 (v := (69 : Int32)) rfl ?_
  refine J_callS_i (M' := m9_within) (as := [_, _, _]) dX9_isKindM_4 lX9_76 sm9_within sm9_within_w (by decide) rfl (Nat.le_of_ble_eq_true rfl) (c9_within _ _ _ _) (fun r3 => ?_)
  refine JF_chk (fun c4 => ?_)
  exact J_zret dX9_isKindM_7 rfl c4 rfl
set_option maxRecDepth 20000 in
theorem c9_comes (a1 : Int32) (μ : JMu) : ∀ b, f9_comes a1 μ = some b → JC m9_comes 1 mPl [.ref 86, .int (a1)] μ (some (.int b.1), b.2) := by
  refine JC_of (emb := (fun b : Int32 × JMu => (some (.int b.1), b.2))) (L0 := [some (.ref 86), some (.int (a1)), none]) sm9_comes (Nat.le_of_ble_eq_true rfl) rfl ?_
  unfold f9_comes
  refine J_aload_n dX9_comes_0 rfl ?_
  refine J_getR dX9_comes_1 wX9_9 rfl jo_mPl_86 jr_86_0 ?_
  refine J_iconst dX9_comes_4 (v := (1 : Int32)) rfl ?_
  refine J_iald dX9_comes_5 ji_mPl_87 jl_87 (jin_spec (by decide)) (j := 1) rfl ?_
  refine J_istore_n dX9_comes_6  (by decide) rfl ?_
  refine J_aload_n dX9_comes_7 rfl ?_
  refine J_getR dX9_comes_8 wX9_9 rfl jo_mPl_86 jr_86_0 ?_
  refine J_iload_n dX9_comes_11 rfl ?_
  refine J_iconst dX9_comes_12 (v := (0 : Int32)) rfl ?_
  refine J_callS_i (M' := m9_at) (as := [_, _]) dX9_comes_13 lX9_204 sm9_at sm9_at_w (by decide) rfl (Nat.le_of_ble_eq_true rfl) (c9_at _ _ _) (fun r14 => ?_)
  refine J_iload_n dX9_comes_16 rfl ?_
  refine J_bipush dX9_comes_17 (v := (10 : Int32)) rfl ?_
  refine J_idiv dX9_comes_19 (by decide) ?_
  refine JF_chk (fun c25 => ?_)
  refine J_iast dX9_comes_20 ji_mPl_87 jl_87 (jin_spec c25) rfl ?_
  refine J_aload_n dX9_comes_21 rfl ?_
  refine J_getR dX9_comes_22 wX9_9 rfl jo_mPl_86 jr_86_0 ?_
  refine J_iload_n dX9_comes_25 rfl ?_
  refine J_iconst dX9_comes_26 (v := (1 : Int32)) rfl ?_
  refine J_callS_i (M' := m9_at) (as := [_, _]) dX9_comes_27 lX9_204 sm9_at sm9_at_w (by decide) rfl (Nat.le_of_ble_eq_true rfl) (c9_at _ _ _) (fun r15 => ?_)
  refine J_iload_n dX9_comes_30 rfl ?_
  refine J_bipush dX9_comes_31 (v := (10 : Int32)) rfl ?_
  refine J_irem dX9_comes_33 (by decide) ?_
  refine JF_chk (fun c24 => ?_)
  refine J_iast dX9_comes_34 ji_mPl_87 jl_87 (jin_spec c24) rfl ?_
  refine J_aload_n dX9_comes_35 rfl ?_
  refine J_getR dX9_comes_36 wX9_9 rfl jo_mPl_86 jr_86_0 ?_
  refine J_iload_n dX9_comes_39 rfl ?_
  refine J_iconst dX9_comes_40 (v := (2 : Int32)) rfl ?_
  refine J_callS_i (M' := m9_at) (as := [_, _]) dX9_comes_41 lX9_204 sm9_at sm9_at_w (by decide) rfl (Nat.le_of_ble_eq_true rfl) (c9_at _ _ _) (fun r16 => ?_)
  refine J_iconst dX9_comes_44 (v := (0 : Int32)) rfl ?_
  refine JF_chk (fun c23 => ?_)
  refine J_iast dX9_comes_45 ji_mPl_87 jl_87 (jin_spec c23) rfl ?_
  refine J_aload_n dX9_comes_46 rfl ?_
  refine J_getR dX9_comes_47 wX9_9 rfl jo_mPl_86 jr_86_0 ?_
  refine J_iload_n dX9_comes_50 rfl ?_
  refine J_iconst dX9_comes_51 (v := (3 : Int32)) rfl ?_
  refine J_callS_i (M' := m9_at) (as := [_, _]) dX9_comes_52 lX9_204 sm9_at sm9_at_w (by decide) rfl (Nat.le_of_ble_eq_true rfl) (c9_at _ _ _) (fun r17 => ?_)
  refine J_iconst dX9_comes_55 (v := (0 : Int32)) rfl ?_
  refine JF_chk (fun c22 => ?_)
  refine J_iast dX9_comes_56 ji_mPl_87 jl_87 (jin_spec c22) rfl ?_
  refine J_aload_n dX9_comes_57 rfl ?_
  refine J_getR dX9_comes_58 wX9_9 rfl jo_mPl_86 jr_86_0 ?_
  refine J_iload_n dX9_comes_61 rfl ?_
  refine J_iconst dX9_comes_62 (v := (4 : Int32)) rfl ?_
  refine J_callS_i (M' := m9_at) (as := [_, _]) dX9_comes_63 lX9_204 sm9_at sm9_at_w (by decide) rfl (Nat.le_of_ble_eq_true rfl) (c9_at _ _ _) (fun r18 => ?_)
  refine J_iconst dX9_comes_66 (v := (0 : Int32)) rfl ?_
  refine JF_chk (fun c21 => ?_)
  refine J_iast dX9_comes_67 ji_mPl_87 jl_87 (jin_spec c21) rfl ?_
  refine J_aload_n dX9_comes_68 rfl ?_
  refine J_getR dX9_comes_69 wX9_9 rfl jo_mPl_86 jr_86_0 ?_
  refine J_iconst dX9_comes_72 (v := (1 : Int32)) rfl ?_
  refine J_dup2 dX9_comes_73 rfl rfl ?_
  refine J_iald dX9_comes_74 ji_mPl_87 jl_87 (jin_spec (by decide)) (j := 1) rfl ?_
  refine J_iconst dX9_comes_75 (v := (1 : Int32)) rfl ?_
  refine J_iadd dX9_comes_76 ?_
  refine J_iast dX9_comes_77 ji_mPl_87 jl_87 (jin_spec (by decide)) (j := 1) rfl ?_
  refine J_iload_n dX9_comes_78 rfl ?_
  exact J_iret dX9_comes_79 rfl rfl
set_option maxRecDepth 20000 in
theorem c9_tenant (a1 : Int32) (μ : JMu) : ∀ b, f9_tenant a1 μ = some b → JC m9_tenant 2 mPl [.ref 86, .int (a1)] μ (some (.int b.1), b.2) := by
  refine JC_of (emb := (fun b : Int32 × JMu => (some (.int b.1), b.2))) (L0 := [some (.ref 86), some (.int (a1))]) sm9_tenant (Nat.le_of_ble_eq_true rfl) rfl ?_
  unfold f9_tenant
  refine J_iload_n dX9_tenant_0 rfl ?_
  refine J_callS_i (M' := m9_isKindM) (as := [_]) dX9_tenant_1 lX9_206 sm9_isKindM sm9_isKindM_w (by decide) rfl (Nat.le_of_ble_eq_true rfl) (c9_isKindM _ _) (fun r8 => ?_)
  refine J_if_ne dX9_tenant_4 (tgt := 14) (by decide) (fun c9 => ?_) (fun c9 => ?_)
  · refine J_aload_n dX9_tenant_7 rfl ?_
    refine J_ldc dX9_tenant_8 kX9_80 ?_
    refine J_callV_w (M' := m9_finding) (as := [_]) dX9_tenant_10 lX9_81 sm9_finding sm9_finding_w jo_mPl_86 hci_X9 (by decide) rfl (Nat.le_of_ble_eq_true rfl) (c9_finding _ _) (fun r14 => ?_)
    exact J_iret dX9_tenant_13 rfl rfl
  · refine J_aload_n dX9_tenant_14 rfl ?_
    refine J_getR dX9_tenant_15 wX9_9 rfl jo_mPl_86 jr_86_0 ?_
    refine J_iconst dX9_tenant_18 (v := (1 : Int32)) rfl ?_
    refine J_iald dX9_tenant_19 ji_mPl_87 jl_87 (jin_spec (by decide)) (j := 1) rfl ?_
    refine J_bipush dX9_tenant_20 (v := (6 : Int32)) rfl ?_
    refine J_icmp_ne dX9_tenant_22 (tgt := 34) (by decide) (fun c10 => ?_) (fun c10 => ?_)
    · refine J_aload_n dX9_tenant_25 rfl ?_
      refine J_ldc dX9_tenant_26 kX9_85 ?_
      refine J_callV_w (M' := m9_finding) (as := [_]) dX9_tenant_28 lX9_81 sm9_finding sm9_finding_w jo_mPl_86 hci_X9 (by decide) rfl (Nat.le_of_ble_eq_true rfl) (c9_finding _ _) (fun r12 => ?_)
      refine J_goto dX9_tenant_31 (tgt := 39) (by decide) ?_
      exact J_iret dX9_tenant_39 rfl rfl
    · refine J_aload_n dX9_tenant_34 rfl ?_
      refine J_iload_n dX9_tenant_35 rfl ?_
      refine J_callV_w (M' := m9_comes) (as := [_]) dX9_tenant_36 lX9_209 sm9_comes sm9_comes_w jo_mPl_86 hci_X9 (by decide) rfl (Nat.le_of_ble_eq_true rfl) (c9_comes _ _) (fun r11 => ?_)
      exact J_iret dX9_tenant_39 rfl rfl
set_option maxRecDepth 20000 in
theorem c9_above (a1 : Int32) (μ : JMu) : ∀ b, f9_above a1 = some b → JC m9_above 0 mPl [.int (a1)] μ (some (.int b), μ) := by
  refine JC_of (emb := (fun b : Int32 => (some (.int b), μ))) (L0 := [some (.int (a1))]) sm9_above (Nat.le_of_ble_eq_true rfl) rfl ?_
  unfold f9_above
  refine J_iload_n dX9_above_0 rfl ?_
  refine J_if_ne dX9_above_1 (tgt := 8) (by decide) (fun c5 => ?_) (fun c5 => ?_)
  · refine J_iconst dX9_above_4 (v := (-1 : Int32)) rfl ?_
    refine J_goto dX9_above_5 (tgt := 37) (by decide) ?_
    exact J_iret dX9_above_37 rfl rfl
  · refine J_iload_n dX9_above_8 rfl ?_
    refine J_iconst dX9_above_9 (v := (4 : Int32)) rfl ?_
    refine J_icmp_ne dX9_above_10 (tgt := 17) (by decide) (fun c6 => ?_) (fun c6 => ?_)
    · refine J_iconst dX9_above_13 (v := (1 : Int32)) rfl ?_
      refine J_goto dX9_above_14 (tgt := 37) (by decide) ?_
      exact J_iret dX9_above_37 rfl rfl
    · refine J_iload_n dX9_above_17 rfl ?_
      refine J_iconst dX9_above_18 (v := (5 : Int32)) rfl ?_
      refine J_icmp_ne dX9_above_19 (tgt := 26) (by decide) (fun c7 => ?_) (fun c7 => ?_)
      · refine J_iconst dX9_above_22 (v := (2 : Int32)) rfl ?_
        refine J_goto dX9_above_23 (tgt := 37) (by decide) ?_
        exact J_iret dX9_above_37 rfl rfl
      · refine J_iload_n dX9_above_26 rfl ?_
        refine J_bipush dX9_above_27 (v := (6 : Int32)) rfl ?_
        refine J_icmp_ne dX9_above_29 (tgt := 36) (by decide) (fun c8 => ?_) (fun c8 => ?_)
        · refine J_iconst dX9_above_32 (v := (3 : Int32)) rfl ?_
          refine J_goto dX9_above_33 (tgt := 37) (by decide) ?_
          exact J_iret dX9_above_37 rfl rfl
        · refine J_iconst dX9_above_36 (v := (0 : Int32)) rfl ?_
          exact J_iret dX9_above_37 rfl rfl
set_option maxRecDepth 20000 in
theorem c9_isUnder_b19 (μ : JMu) (v2 : Int32) : JF m9_isUnder 1 mPl (fun b : Int32 => (some (.int b), μ)) 19 [none, none, some (.int (v2))] [] μ (f9_isUnder_b19 v2) := by
  unfold f9_isUnder_b19
  refine J_iload_n dX9_isUnder_19 rfl ?_
  refine J_if_lt dX9_isUnder_20 (tgt := 27) (by decide) (fun c5 => ?_) (fun c5 => ?_)
  · refine J_iconst dX9_isUnder_27 (v := (0 : Int32)) rfl ?_
    exact J_zret dX9_isUnder_28 rfl (Or.inl rfl) rfl
  · refine J_iconst dX9_isUnder_23 (v := (1 : Int32)) rfl ?_
    refine J_goto dX9_isUnder_24 (tgt := 28) (by decide) ?_
    exact J_zret dX9_isUnder_28 rfl (Or.inr rfl) rfl
set_option maxRecDepth 20000 in
theorem c9_isUnder_b2 (μ : JMu) (n : Nat) : ∀ (v1 : Int32) (v2 : Int32), JF m9_isUnder 1 mPl (fun b : Int32 => (some (.int b), μ)) 2 [none, some (.int (v1)), some (.int (v2))] [] μ (f9_isUnder_b2 n v1 v2) := by
  induction n with
  | zero => intros; exact JF_none
  | succ n ih =>
    intro v1 v2
    rw [f9_isUnder_b2]
    refine J_iload_n dX9_isUnder_2 rfl ?_
    refine J_if_lt dX9_isUnder_3 (tgt := 19) (by decide) (fun c6 => ?_) (fun c6 => ?_)
    · refine JF_drop [1] ?_
      exact c9_isUnder_b19 μ _
    · refine J_iload_n dX9_isUnder_6 rfl ?_
      refine J_iload_n dX9_isUnder_7 rfl ?_
      refine J_icmp_eq dX9_isUnder_8 (tgt := 19) (by decide) (fun c7 => ?_) (fun c7 => ?_)
      · refine JF_drop [1] ?_
        exact c9_isUnder_b19 μ _
      · refine J_iload_n dX9_isUnder_11 rfl ?_
        refine J_callS_i (M' := m9_above) (as := [_]) dX9_isUnder_12 lX9_212 sm9_above sm9_above_w (by decide) rfl (Nat.le_of_ble_eq_true rfl) (c9_above _ _) (fun r8 => ?_)
        refine J_istore_n dX9_isUnder_15  (by decide) rfl ?_
        refine J_goto dX9_isUnder_16 (tgt := 2) (by decide) ?_
        exact ih _ _
set_option maxRecDepth 20000 in
theorem c9_isUnder (a1 : Int32) (a2 : Int32) (μ : JMu) : ∀ b, f9_isUnder a1 a2 = some b → JC m9_isUnder 1 mPl [.int (a1), .int (a2)] μ (some (.int b), μ) := by
  refine JC_of (emb := (fun b : Int32 => (some (.int b), μ))) (L0 := [some (.int (a1)), some (.int (a2)), none]) sm9_isUnder (Nat.le_of_ble_eq_true rfl) rfl ?_
  unfold f9_isUnder
  refine J_iload_n dX9_isUnder_0 rfl ?_
  refine J_istore_n dX9_isUnder_1  (by decide) rfl ?_
  refine JF_drop [0] ?_
  exact c9_isUnder_b2 μ jN _ _
set_option maxRecDepth 20000 in
theorem c9_isOf (a1 : Int32) (a2 : Int32) (μ : JMu) : ∀ b, f9_isOf a1 a2 μ = some b → JC m9_isOf 2 mPl [.ref 86, .int (a1), .int (a2)] μ (some (.int b), μ) := by
  refine JC_of (emb := (fun b : Int32 => (some (.int b), μ))) (L0 := [some (.ref 86), some (.int (a1)), some (.int (a2))]) sm9_isOf (Nat.le_of_ble_eq_true rfl) rfl ?_
  unfold f9_isOf
  refine J_aload_n dX9_isOf_0 rfl ?_
  refine J_iload_n dX9_isOf_1 rfl ?_
  refine J_iconst dX9_isOf_2 (v := (0 : Int32)) rfl ?_
  refine J_callV_i (M' := m9_tenantIs) (as := [_, _]) dX9_isOf_3 lX9_179 sm9_tenantIs sm9_tenantIs_w jo_mPl_86 hci_X9 (by decide) rfl (Nat.le_of_ble_eq_true rfl) (c9_tenantIs _ _ _) (fun r4 => ?_)
  refine J_iload_n dX9_isOf_6 rfl ?_
  refine J_callS_i (M' := m9_isUnder) (as := [_, _]) dX9_isOf_7 lX9_215 sm9_isUnder sm9_isUnder_w (by decide) rfl (Nat.le_of_ble_eq_true rfl) (c9_isUnder _ _ _) (fun r5 => ?_)
  refine JF_chk (fun c6 => ?_)
  exact J_zret dX9_isOf_10 rfl c6 rfl
set_option maxRecDepth 20000 in
theorem c9_looks (a1 : Int32) (μ : JMu) : ∀ b, f9_looks a1 μ = some b → JC m9_looks 3 mPl [.ref 86, .int (a1)] μ (some (.int b), μ) := by
  refine JC_of (emb := (fun b : Int32 => (some (.int b), μ))) (L0 := [some (.ref 86), some (.int (a1)), none]) sm9_looks (Nat.le_of_ble_eq_true rfl) rfl ?_
  unfold f9_looks
  refine J_aload_n dX9_looks_0 rfl ?_
  refine J_iload_n dX9_looks_1 rfl ?_
  refine J_iconst dX9_looks_2 (v := (1 : Int32)) rfl ?_
  refine J_callV_i (M' := m9_tenantIs) (as := [_, _]) dX9_looks_3 lX9_179 sm9_tenantIs sm9_tenantIs_w jo_mPl_86 hci_X9 (by decide) rfl (Nat.le_of_ble_eq_true rfl) (c9_tenantIs _ _ _) (fun r18 => ?_)
  refine J_istore_n dX9_looks_6  (by decide) rfl ?_
  refine J_aload_n dX9_looks_7 rfl ?_
  refine J_iload_n dX9_looks_8 rfl ?_
  refine J_iconst dX9_looks_9 (v := (0 : Int32)) rfl ?_
  refine J_callV_i (M' := m9_tenantIs) (as := [_, _]) dX9_looks_10 lX9_179 sm9_tenantIs sm9_tenantIs_w jo_mPl_86 hci_X9 (by decide) rfl (Nat.le_of_ble_eq_true rfl) (c9_tenantIs _ _ _) (fun r19 => ?_)
  refine J_iconst dX9_looks_13 (v := (5 : Int32)) rfl ?_
  refine J_icmp_ne dX9_looks_14 (tgt := 19) (by decide) (fun c20 => ?_) (fun c20 => ?_)
  · refine J_iconst dX9_looks_17 (v := (0 : Int32)) rfl ?_
    exact J_zret dX9_looks_18 rfl (Or.inl rfl) rfl
  · refine J_aload_n dX9_looks_19 rfl ?_
    refine J_iload_n dX9_looks_20 rfl ?_
    refine J_iconst dX9_looks_21 (v := (1 : Int32)) rfl ?_
    refine J_callV_i (M' := m9_isOf) (as := [_, _]) dX9_looks_22 lX9_218 sm9_isOf sm9_isOf_w jo_mPl_86 hci_X9 (by decide) rfl (Nat.le_of_ble_eq_true rfl) (c9_isOf _ _ _) (fun r21 => ?_)
    refine J_if_eq dX9_looks_25 (tgt := 51) (by decide) (fun c22 => ?_) (fun c22 => ?_)
    · refine J_aload_n dX9_looks_51 rfl ?_
      refine J_iload_n dX9_looks_52 rfl ?_
      refine J_iconst dX9_looks_53 (v := (2 : Int32)) rfl ?_
      refine J_callV_i (M' := m9_isOf) (as := [_, _]) dX9_looks_54 lX9_218 sm9_isOf sm9_isOf_w jo_mPl_86 hci_X9 (by decide) rfl (Nat.le_of_ble_eq_true rfl) (c9_isOf _ _ _) (fun r23 => ?_)
      refine J_if_eq dX9_looks_57 (tgt := 80) (by decide) (fun c24 => ?_) (fun c24 => ?_)
      · refine J_aload_n dX9_looks_80 rfl ?_
        refine J_iload_n dX9_looks_81 rfl ?_
        refine J_iconst dX9_looks_82 (v := (3 : Int32)) rfl ?_
        refine J_callV_i (M' := m9_isOf) (as := [_, _]) dX9_looks_83 lX9_218 sm9_isOf sm9_isOf_w jo_mPl_86 hci_X9 (by decide) rfl (Nat.le_of_ble_eq_true rfl) (c9_isOf _ _ _) (fun r25 => ?_)
        refine J_if_eq dX9_looks_86 (tgt := 100) (by decide) (fun c26 => ?_) (fun c26 => ?_)
        · refine J_iconst dX9_looks_100 (v := (1 : Int32)) rfl ?_
          refine J_goto dX9_looks_101 (tgt := 105) (by decide) ?_
          exact J_zret dX9_looks_105 rfl (Or.inr rfl) rfl
        · refine J_aload_n dX9_looks_89 rfl ?_
          refine J_getR dX9_looks_90 wX9_9 rfl jo_mPl_86 jr_86_0 ?_
          refine J_iconst dX9_looks_93 (v := (0 : Int32)) rfl ?_
          refine J_iald dX9_looks_94 ji_mPl_87 jl_87 (jin_spec (by decide)) (j := 0) rfl ?_
          refine J_iconst dX9_looks_95 (v := (2 : Int32)) rfl ?_
          refine J_irem dX9_looks_96 (by decide) ?_
          refine J_if_ne dX9_looks_97 (tgt := 104) (by decide) (fun c27 => ?_) (fun c27 => ?_)
          · refine J_iconst dX9_looks_100 (v := (1 : Int32)) rfl ?_
            refine J_goto dX9_looks_101 (tgt := 105) (by decide) ?_
            exact J_zret dX9_looks_105 rfl (Or.inr rfl) rfl
          · refine J_iconst dX9_looks_104 (v := (0 : Int32)) rfl ?_
            exact J_zret dX9_looks_105 rfl (Or.inl rfl) rfl
      · refine J_aload_n dX9_looks_60 rfl ?_
        refine J_iload_n dX9_looks_61 rfl ?_
        refine J_iconst dX9_looks_62 (v := (2 : Int32)) rfl ?_
        refine J_callV_i (M' := m9_tenantIs) (as := [_, _]) dX9_looks_63 lX9_179 sm9_tenantIs sm9_tenantIs_w jo_mPl_86 hci_X9 (by decide) rfl (Nat.le_of_ble_eq_true rfl) (c9_tenantIs _ _ _) (fun r29 => ?_)
        refine J_aload_n dX9_looks_66 rfl ?_
        refine J_callV_i (M' := m9_litNow) (as := []) dX9_looks_67 lX9_176 sm9_litNow sm9_litNow_w jo_mPl_86 hci_X9 (by decide) rfl (Nat.le_of_ble_eq_true rfl) (c9_litNow  _) (fun r30 => ?_)
        refine J_iand dX9_looks_70 ?_
        refine J_if_eq dX9_looks_71 (tgt := 78) (by decide) (fun c31 => ?_) (fun c31 => ?_)
        · refine J_iconst dX9_looks_78 (v := (0 : Int32)) rfl ?_
          exact J_zret dX9_looks_79 rfl (Or.inl rfl) rfl
        · refine J_iconst dX9_looks_74 (v := (1 : Int32)) rfl ?_
          refine J_goto dX9_looks_75 (tgt := 79) (by decide) ?_
          exact J_zret dX9_looks_79 rfl (Or.inr rfl) rfl
    · refine J_iload_n dX9_looks_28 rfl ?_
      refine J_iconst dX9_looks_29 (v := (2 : Int32)) rfl ?_
      refine J_icmp_gt dX9_looks_30 (tgt := 45) (by decide) (fun c32 => ?_) (fun c32 => ?_)
      · refine J_iconst dX9_looks_45 (v := (1 : Int32)) rfl ?_
        refine J_goto dX9_looks_46 (tgt := 50) (by decide) ?_
        exact J_zret dX9_looks_50 rfl (Or.inr rfl) rfl
      · refine J_aload_n dX9_looks_33 rfl ?_
        refine J_getR dX9_looks_34 wX9_9 rfl jo_mPl_86 jr_86_0 ?_
        refine J_iconst dX9_looks_37 (v := (0 : Int32)) rfl ?_
        refine J_iald dX9_looks_38 ji_mPl_87 jl_87 (jin_spec (by decide)) (j := 0) rfl ?_
        refine J_iconst dX9_looks_39 (v := (3 : Int32)) rfl ?_
        refine J_irem dX9_looks_40 (by decide) ?_
        refine J_iload_n dX9_looks_41 rfl ?_
        refine J_icmp_ne dX9_looks_42 (tgt := 49) (by decide) (fun c33 => ?_) (fun c33 => ?_)
        · refine J_iconst dX9_looks_45 (v := (1 : Int32)) rfl ?_
          refine J_goto dX9_looks_46 (tgt := 50) (by decide) ?_
          exact J_zret dX9_looks_50 rfl (Or.inr rfl) rfl
        · refine J_iconst dX9_looks_49 (v := (0 : Int32)) rfl ?_
          exact J_zret dX9_looks_50 rfl (Or.inl rfl) rfl
set_option maxRecDepth 20000 in
theorem c9_othersIn_b41 (μ : JMu) (k4 : Int32 → Int32 → Int32 → JMu → Option (Int32)) (hk4 : ∀ (v1 : Int32) (v2 : Int32) (v3 : Int32), JF m9_othersIn 2 mPl (fun b : Int32 => (some (.int b), μ)) 4 [some (.ref 86), some (.int (v1)), some (.int (v2)), some (.int (v3))] [] μ (k4 v1 v2 v3 μ)) (v1 : Int32) (v3 : Int32) (s0 : Int32) (s1 : Int32) : JF m9_othersIn 2 mPl (fun b : Int32 => (some (.int b), μ)) 41 [some (.ref 86), some (.int (v1)), none, some (.int (v3))] [.int (s0), .int (s1)] μ (f9_othersIn_b41 k4 v1 v3 s0 s1 μ) := by
  unfold f9_othersIn_b41
  refine J_iadd dX9_othersIn_41 ?_
  refine J_istore_n dX9_othersIn_42  (by decide) rfl ?_
  refine J_iinc dX9_othersIn_43 rfl (c0 := (1 : Int32)) rfl (by decide) rfl ?_
  refine J_goto dX9_othersIn_46 (tgt := 4) (by decide) ?_
  exact hk4 _ _ _
set_option maxRecDepth 20000 in
theorem c9_othersIn_b40 (μ : JMu) (k4 : Int32 → Int32 → Int32 → JMu → Option (Int32)) (hk4 : ∀ (v1 : Int32) (v2 : Int32) (v3 : Int32), JF m9_othersIn 2 mPl (fun b : Int32 => (some (.int b), μ)) 4 [some (.ref 86), some (.int (v1)), some (.int (v2)), some (.int (v3))] [] μ (k4 v1 v2 v3 μ)) (v1 : Int32) (v3 : Int32) (s0 : Int32) : JF m9_othersIn 2 mPl (fun b : Int32 => (some (.int b), μ)) 40 [some (.ref 86), some (.int (v1)), none, some (.int (v3))] [.int (s0)] μ (f9_othersIn_b40 k4 v1 v3 s0 μ) := by
  unfold f9_othersIn_b40
  refine J_iconst dX9_othersIn_40 (v := (0 : Int32)) rfl ?_
  exact c9_othersIn_b41 μ k4 hk4 _ _ _ _
set_option maxRecDepth 20000 in
theorem c9_othersIn_b4 (μ : JMu) (n : Nat) : ∀ (v1 : Int32) (v2 : Int32) (v3 : Int32), JF m9_othersIn 2 mPl (fun b : Int32 => (some (.int b), μ)) 4 [some (.ref 86), some (.int (v1)), some (.int (v2)), some (.int (v3))] [] μ (f9_othersIn_b4 n v1 v2 v3 μ) := by
  induction n with
  | zero => intros; exact JF_none
  | succ n ih =>
    intro v1 v2 v3
    rw [f9_othersIn_b4]
    refine J_iload_n dX9_othersIn_4 rfl ?_
    refine J_aload_n dX9_othersIn_5 rfl ?_
    refine J_getR dX9_othersIn_6 wX9_9 rfl jo_mPl_86 jr_86_0 ?_
    refine J_iconst dX9_othersIn_9 (v := (1 : Int32)) rfl ?_
    refine J_iald dX9_othersIn_10 ji_mPl_87 jl_87 (jin_spec (by decide)) (j := 1) rfl ?_
    refine J_icmp_ge dX9_othersIn_11 (tgt := 49) (by decide) (fun c7 => ?_) (fun c7 => ?_)
    · refine J_iload_n dX9_othersIn_49 rfl ?_
      exact J_iret dX9_othersIn_50 rfl rfl
    · refine J_iload_n dX9_othersIn_14 rfl ?_
      refine J_iload_n dX9_othersIn_15 rfl ?_
      refine J_iload_n dX9_othersIn_16 rfl ?_
      refine J_icmp_eq dX9_othersIn_17 (tgt := 40) (by decide) (fun c8 => ?_) (fun c8 => ?_)
      · refine JF_drop [2] ?_
        exact c9_othersIn_b40 μ _ ih _ _ _
      · refine J_aload_n dX9_othersIn_20 rfl ?_
        refine J_iload_n dX9_othersIn_21 rfl ?_
        refine J_iconst dX9_othersIn_22 (v := (2 : Int32)) rfl ?_
        refine J_callV_i (M' := m9_tenantIs) (as := [_, _]) dX9_othersIn_23 lX9_179 sm9_tenantIs sm9_tenantIs_w jo_mPl_86 hci_X9 (by decide) rfl (Nat.le_of_ble_eq_true rfl) (c9_tenantIs _ _ _) (fun r9 => ?_)
        refine J_aload_n dX9_othersIn_26 rfl ?_
        refine J_iload_n dX9_othersIn_27 rfl ?_
        refine J_iconst dX9_othersIn_28 (v := (2 : Int32)) rfl ?_
        refine J_callV_i (M' := m9_tenantIs) (as := [_, _]) dX9_othersIn_29 lX9_179 sm9_tenantIs sm9_tenantIs_w jo_mPl_86 hci_X9 (by decide) rfl (Nat.le_of_ble_eq_true rfl) (c9_tenantIs _ _ _) (fun r10 => ?_)
        refine J_iand dX9_othersIn_32 ?_
        refine J_if_eq dX9_othersIn_33 (tgt := 40) (by decide) (fun c11 => ?_) (fun c11 => ?_)
        · refine JF_drop [2] ?_
          exact c9_othersIn_b40 μ _ ih _ _ _
        · refine J_iconst dX9_othersIn_36 (v := (1 : Int32)) rfl ?_
          refine J_goto dX9_othersIn_37 (tgt := 41) (by decide) ?_
          refine JF_drop [2] ?_
          exact c9_othersIn_b41 μ _ ih _ _ _ _
set_option maxRecDepth 20000 in
theorem c9_othersIn (a1 : Int32) (μ : JMu) : ∀ b, f9_othersIn a1 μ = some b → JC m9_othersIn 2 mPl [.ref 86, .int (a1)] μ (some (.int b), μ) := by
  refine JC_of (emb := (fun b : Int32 => (some (.int b), μ))) (L0 := [some (.ref 86), some (.int (a1)), none, none]) sm9_othersIn (Nat.le_of_ble_eq_true rfl) rfl ?_
  unfold f9_othersIn
  refine J_iconst dX9_othersIn_0 (v := (0 : Int32)) rfl ?_
  refine J_istore_n dX9_othersIn_1  (by decide) rfl ?_
  refine J_iconst dX9_othersIn_2 (v := (0 : Int32)) rfl ?_
  refine J_istore_n dX9_othersIn_3  (by decide) rfl ?_
  exact c9_othersIn_b4 μ jN _ _ _
set_option maxRecDepth 20000 in
theorem c9_owes_b33 (k4 : Int32 → Int32 → Int32 → JMu → Option (Int32 × JMu)) (hk4 : ∀ (v1 : Int32) (v2 : Int32) (v3 : Int32) (μ : JMu), JF m9_owes 4 mPl (fun b : Int32 × JMu => (some (.int b.1), b.2)) 4 [some (.ref 86), some (.int (v1)), some (.int (v2)), some (.int (v3))] [] μ (k4 v1 v2 v3 μ)) (v1 : Int32) (v3 : Int32) (s0 : Int32) (s1 : Int32) (μ : JMu) : JF m9_owes 4 mPl (fun b : Int32 × JMu => (some (.int b.1), b.2)) 33 [some (.ref 86), some (.int (v1)), none, some (.int (v3))] [.int (s0), .int (s1)] μ (f9_owes_b33 k4 v1 v3 s0 s1 μ) := by
  unfold f9_owes_b33
  refine J_iadd dX9_owes_33 ?_
  refine J_istore_n dX9_owes_34  (by decide) rfl ?_
  refine J_iinc dX9_owes_35 rfl (c0 := (1 : Int32)) rfl (by decide) rfl ?_
  refine J_goto dX9_owes_38 (tgt := 4) (by decide) ?_
  exact hk4 _ _ _ _
set_option maxRecDepth 20000 in
theorem c9_owes_b4 (n : Nat) : ∀ (v1 : Int32) (v2 : Int32) (v3 : Int32) (μ : JMu), JF m9_owes 4 mPl (fun b : Int32 × JMu => (some (.int b.1), b.2)) 4 [some (.ref 86), some (.int (v1)), some (.int (v2)), some (.int (v3))] [] μ (f9_owes_b4 n v1 v2 v3 μ) := by
  induction n with
  | zero => intros; exact JF_none
  | succ n ih =>
    intro v1 v2 v3 μ
    rw [f9_owes_b4]
    refine J_iload_n dX9_owes_4 rfl ?_
    refine J_bipush dX9_owes_5 (v := (24 : Int32)) rfl ?_
    refine J_icmp_ge dX9_owes_7 (tgt := 41) (by decide) (fun c16 => ?_) (fun c16 => ?_)
    · refine J_aload_n dX9_owes_41 rfl ?_
      refine J_iload_n dX9_owes_42 rfl ?_
      refine J_iconst dX9_owes_43 (v := (1 : Int32)) rfl ?_
      refine J_callV_i (M' := m9_tenantIs) (as := [_, _]) dX9_owes_44 lX9_179 sm9_tenantIs sm9_tenantIs_w jo_mPl_86 hci_X9 (by decide) rfl (Nat.le_of_ble_eq_true rfl) (c9_tenantIs _ _ _) (fun r17 => ?_)
      refine J_istore_n dX9_owes_47  (by decide) rfl ?_
      refine J_aload_n dX9_owes_48 rfl ?_
      refine J_iload_n dX9_owes_49 rfl ?_
      refine J_iconst dX9_owes_50 (v := (0 : Int32)) rfl ?_
      refine J_callV_i (M' := m9_tenantIs) (as := [_, _]) dX9_owes_51 lX9_179 sm9_tenantIs sm9_tenantIs_w jo_mPl_86 hci_X9 (by decide) rfl (Nat.le_of_ble_eq_true rfl) (c9_tenantIs _ _ _) (fun r18 => ?_)
      refine JF_ite (fun c19 => ?_) (fun c19 => ?_)
      · refine J_tabIn (1 : Int32) dX9_owes_54 (tgt := 92)  c19 (by decide) (by decide) rfl (by decide) ?_
        refine J_iload_n dX9_owes_92 rfl ?_
        refine J_iconst dX9_owes_93 (v := (2 : Int32)) rfl ?_
        refine J_idiv dX9_owes_94 (by decide) ?_
        exact J_iret dX9_owes_95 rfl rfl
      · refine JF_ite (fun c20 => ?_) (fun c20 => ?_)
        · refine J_tabIn (2 : Int32) dX9_owes_54 (tgt := 108)  c20 (by decide) (by decide) rfl (by decide) ?_
          refine J_iload_n dX9_owes_108 rfl ?_
          refine J_iload_n dX9_owes_109 rfl ?_
          refine J_iadd dX9_owes_110 ?_
          exact J_iret dX9_owes_111 rfl rfl
        · refine JF_ite (fun c21 => ?_) (fun c21 => ?_)
          · refine J_tabIn (3 : Int32) dX9_owes_54 (tgt := 112)  c21 (by decide) (by decide) rfl (by decide) ?_
            refine J_iload_n dX9_owes_112 rfl ?_
            refine J_iload_n dX9_owes_113 rfl ?_
            refine J_bipush dX9_owes_114 (v := (10 : Int32)) rfl ?_
            refine J_idiv dX9_owes_116 (by decide) ?_
            refine J_isub dX9_owes_117 ?_
            exact J_iret dX9_owes_118 rfl rfl
          · refine JF_ite (fun c22 => ?_) (fun c22 => ?_)
            · refine J_tabIn (4 : Int32) dX9_owes_54 (tgt := 96)  c22 (by decide) (by decide) rfl (by decide) ?_
              refine J_iload_n dX9_owes_96 rfl ?_
              refine J_iconst dX9_owes_97 (v := (2 : Int32)) rfl ?_
              refine J_idiv dX9_owes_98 (by decide) ?_
              refine J_iconst dX9_owes_99 (v := (1 : Int32)) rfl ?_
              refine J_aload_n dX9_owes_100 rfl ?_
              refine J_iload_n dX9_owes_101 rfl ?_
              refine J_callV_i (M' := m9_othersIn) (as := [_]) dX9_owes_102 lX9_221 sm9_othersIn sm9_othersIn_w jo_mPl_86 hci_X9 (by decide) rfl (Nat.le_of_ble_eq_true rfl) (c9_othersIn _ _) (fun r23 => ?_)
              refine J_iadd dX9_owes_105 ?_
              refine JF_chk (fun c24 => ?_)
              refine J_idiv dX9_owes_106 c24 ?_
              exact J_iret dX9_owes_107 rfl rfl
            · refine JF_ite (fun c25 => ?_) (fun c25 => ?_)
              · refine J_tabIn (5 : Int32) dX9_owes_54 (tgt := 108)  c25 (by decide) (by decide) rfl (by decide) ?_
                refine J_iload_n dX9_owes_108 rfl ?_
                refine J_iload_n dX9_owes_109 rfl ?_
                refine J_iadd dX9_owes_110 ?_
                exact J_iret dX9_owes_111 rfl rfl
              · refine JF_ite (fun c26 => ?_) (fun c26 => ?_)
                · refine J_tabIn (6 : Int32) dX9_owes_54 (tgt := 119)  c26 (by decide) (by decide) rfl (by decide) ?_
                  refine J_iconst dX9_owes_119 (v := (0 : Int32)) rfl ?_
                  refine J_iload_n dX9_owes_120 rfl ?_
                  refine J_iload_n dX9_owes_121 rfl ?_
                  refine J_bipush dX9_owes_122 (v := (10 : Int32)) rfl ?_
                  refine J_idiv dX9_owes_124 (by decide) ?_
                  refine J_isub dX9_owes_125 ?_
                  refine J_iload_n dX9_owes_126 rfl ?_
                  refine J_isub dX9_owes_127 ?_
                  refine J_max dX9_owes_128 lX9_69 wm_max_s wm_i wm_max_c (by decide) (Nat.le_of_ble_eq_true rfl) ?_
                  exact J_iret dX9_owes_131 rfl rfl
                · refine J_tabOut dX9_owes_54 (tgt := 132) (by have z0 := lv_neT c19 (k := (1 : Int32)) (a := 1) rfl; have z1 := lv_neT c20 (k := (2 : Int32)) (a := 2) rfl; have z2 := lv_neT c21 (k := (3 : Int32)) (a := 3) rfl; have z3 := lv_neT c22 (k := (4 : Int32)) (a := 4) rfl; have z4 := lv_neT c25 (k := (5 : Int32)) (a := 5) rfl; have z5 := lv_neT c26 (k := (6 : Int32)) (a := 6) rfl; omega) (by decide) ?_
                  refine J_iload_n dX9_owes_132 rfl ?_
                  exact J_iret dX9_owes_133 rfl rfl
    · refine J_iload_n dX9_owes_10 rfl ?_
      refine J_aload_n dX9_owes_11 rfl ?_
      refine J_iload_n dX9_owes_12 rfl ?_
      refine J_iconst dX9_owes_13 (v := (2 : Int32)) rfl ?_
      refine J_callV_i (M' := m9_tenantIs) (as := [_, _]) dX9_owes_14 lX9_179 sm9_tenantIs sm9_tenantIs_w jo_mPl_86 hci_X9 (by decide) rfl (Nat.le_of_ble_eq_true rfl) (c9_tenantIs _ _ _) (fun r27 => ?_)
      refine J_iload_n dX9_owes_17 rfl ?_
      refine J_callS_i (M' := m9_hasBit) (as := [_, _]) dX9_owes_18 lX9_182 sm9_hasBit sm9_hasBit_w (by decide) rfl (Nat.le_of_ble_eq_true rfl) (c9_hasBit _ _ _) (fun r28 => ?_)
      refine J_if_eq dX9_owes_21 (tgt := 32) (by decide) (fun c29 => ?_) (fun c29 => ?_)
      · refine J_iconst dX9_owes_32 (v := (0 : Int32)) rfl ?_
        refine JF_drop [2] ?_
        exact c9_owes_b33 _ ih _ _ _ _ _
      · refine J_aload_n dX9_owes_24 rfl ?_
        refine J_iload_n dX9_owes_25 rfl ?_
        refine J_callV_w (M' := m9_rentOf) (as := [_]) dX9_owes_26 lX9_198 sm9_rentOf sm9_rentOf_w jo_mPl_86 hci_X9 (by decide) rfl (Nat.le_of_ble_eq_true rfl) (c9_rentOf _ _) (fun r30 => ?_)
        refine J_goto dX9_owes_29 (tgt := 33) (by decide) ?_
        refine JF_drop [2] ?_
        exact c9_owes_b33 _ ih _ _ _ _ _
set_option maxRecDepth 20000 in
theorem c9_owes (a1 : Int32) (μ : JMu) : ∀ b, f9_owes a1 μ = some b → JC m9_owes 4 mPl [.ref 86, .int (a1)] μ (some (.int b.1), b.2) := by
  refine JC_of (emb := (fun b : Int32 × JMu => (some (.int b.1), b.2))) (L0 := [some (.ref 86), some (.int (a1)), none, none]) sm9_owes (Nat.le_of_ble_eq_true rfl) rfl ?_
  unfold f9_owes
  refine J_iconst dX9_owes_0 (v := (0 : Int32)) rfl ?_
  refine J_istore_n dX9_owes_1  (by decide) rfl ?_
  refine J_iconst dX9_owes_2 (v := (0 : Int32)) rfl ?_
  refine J_istore_n dX9_owes_3  (by decide) rfl ?_
  exact c9_owes_b4 jN _ _ _ _
set_option maxRecDepth 20000 in
theorem c9_earns (a1 : Int32) (μ : JMu) : ∀ b, f9_earns a1 μ = some b → JC m9_earns 5 mPl [.ref 86, .int (a1)] μ (some (.int b.1), b.2) := by
  refine JC_of (emb := (fun b : Int32 × JMu => (some (.int b.1), b.2))) (L0 := [some (.ref 86), some (.int (a1)), none]) sm9_earns (Nat.le_of_ble_eq_true rfl) rfl ?_
  unfold f9_earns
  refine J_aload_n dX9_earns_0 rfl ?_
  refine J_iload_n dX9_earns_1 rfl ?_
  refine J_iconst dX9_earns_2 (v := (2 : Int32)) rfl ?_
  refine J_callV_i (M' := m9_tenantIs) (as := [_, _]) dX9_earns_3 lX9_179 sm9_tenantIs sm9_tenantIs_w jo_mPl_86 hci_X9 (by decide) rfl (Nat.le_of_ble_eq_true rfl) (c9_tenantIs _ _ _) (fun r11 => ?_)
  refine J_aload_n dX9_earns_6 rfl ?_
  refine J_callV_w (M' := m9_seenNow) (as := []) dX9_earns_7 lX9_195 sm9_seenNow sm9_seenNow_w jo_mPl_86 hci_X9 (by decide) rfl (Nat.le_of_ble_eq_true rfl) (c9_seenNow  _) (fun r12 => ?_)
  refine J_iand dX9_earns_10 ?_
  refine J_istore_n dX9_earns_11  (by decide) rfl ?_
  refine J_iload_n dX9_earns_12 rfl ?_
  refine J_if_eq dX9_earns_13 (tgt := 24) (by decide) (fun c13 => ?_) (fun c13 => ?_)
  · refine J_iconst dX9_earns_24 (v := (0 : Int32)) rfl ?_
    exact J_iret dX9_earns_25 rfl rfl
  · refine J_aload_n dX9_earns_16 rfl ?_
    refine J_iload_n dX9_earns_17 rfl ?_
    refine J_callV_i (M' := m9_looks) (as := [_]) dX9_earns_18 lX9_224 sm9_looks sm9_looks_w jo_mPl_86 hci_X9 (by decide) rfl (Nat.le_of_ble_eq_true rfl) (c9_looks _ _) (fun r14 => ?_)
    refine J_if_ne dX9_earns_21 (tgt := 26) (by decide) (fun c15 => ?_) (fun c15 => ?_)
    · refine J_iconst dX9_earns_24 (v := (0 : Int32)) rfl ?_
      exact J_iret dX9_earns_25 rfl rfl
    · refine J_aload_n dX9_earns_26 rfl ?_
      refine J_iload_n dX9_earns_27 rfl ?_
      refine J_iconst dX9_earns_28 (v := (1 : Int32)) rfl ?_
      refine J_callV_i (M' := m9_isOf) (as := [_, _]) dX9_earns_29 lX9_218 sm9_isOf sm9_isOf_w jo_mPl_86 hci_X9 (by decide) rfl (Nat.le_of_ble_eq_true rfl) (c9_isOf _ _ _) (fun r16 => ?_)
      refine J_if_eq dX9_earns_32 (tgt := 40) (by decide) (fun c17 => ?_) (fun c17 => ?_)
      · refine J_aload_n dX9_earns_40 rfl ?_
        refine J_iload_n dX9_earns_41 rfl ?_
        refine J_iconst dX9_earns_42 (v := (3 : Int32)) rfl ?_
        refine J_callV_i (M' := m9_isOf) (as := [_, _]) dX9_earns_43 lX9_218 sm9_isOf sm9_isOf_w jo_mPl_86 hci_X9 (by decide) rfl (Nat.le_of_ble_eq_true rfl) (c9_isOf _ _ _) (fun r18 => ?_)
        refine J_if_eq dX9_earns_46 (tgt := 58) (by decide) (fun c19 => ?_) (fun c19 => ?_)
        · refine J_iconst dX9_earns_58 (v := (5 : Int32)) rfl ?_
          exact J_iret dX9_earns_59 rfl rfl
        · refine J_iconst dX9_earns_49 (v := (2 : Int32)) rfl ?_
          refine J_iload_n dX9_earns_50 rfl ?_
          refine J_callS_i (M' := m9_bits) (as := [_]) dX9_earns_51 lX9_189 sm9_bits sm9_bits_w (by decide) rfl (Nat.le_of_ble_eq_true rfl) (c9_bits _ _) (fun r20 => ?_)
          refine J_imul dX9_earns_54 ?_
          refine J_goto dX9_earns_55 (tgt := 59) (by decide) ?_
          exact J_iret dX9_earns_59 rfl rfl
      · refine J_bipush dX9_earns_35 (v := (9 : Int32)) rfl ?_
        refine J_goto dX9_earns_37 (tgt := 59) (by decide) ?_
        exact J_iret dX9_earns_59 rfl rfl
set_option maxRecDepth 20000 in
theorem c9_ofTenant_b18 (μ : JMu) : JF m9_ofTenant 5 mPl (fun b : Int32 × JMu => (some (.int b.1), b.2)) 18 [some (.ref 86), none, none] [] μ (f9_ofTenant_b18  μ) := by
  unfold f9_ofTenant_b18
  refine J_aload_n dX9_ofTenant_18 rfl ?_
  refine J_ldc dX9_ofTenant_19 kX9_80 ?_
  refine J_callV_w (M' := m9_finding) (as := [_]) dX9_ofTenant_21 lX9_81 sm9_finding sm9_finding_w jo_mPl_86 hci_X9 (by decide) rfl (Nat.le_of_ble_eq_true rfl) (c9_finding _ _) (fun r18 => ?_)
  exact J_iret dX9_ofTenant_24 rfl rfl
set_option maxRecDepth 20000 in
theorem c9_ofTenant_b102 (v1 : Int32) (v2 : Int32) (μ : JMu) : JF m9_ofTenant 5 mPl (fun b : Int32 × JMu => (some (.int b.1), b.2)) 102 [some (.ref 86), some (.int (v1)), some (.int (v2))] [] μ (f9_ofTenant_b102 v1 v2 μ) := by
  unfold f9_ofTenant_b102
  refine J_aload_n dX9_ofTenant_102 rfl ?_
  refine J_iload_n dX9_ofTenant_103 rfl ?_
  refine J_iload_n dX9_ofTenant_104 rfl ?_
  refine J_callV_i (M' := m9_tenantIs) (as := [_, _]) dX9_ofTenant_105 lX9_179 sm9_tenantIs sm9_tenantIs_w jo_mPl_86 hci_X9 (by decide) rfl (Nat.le_of_ble_eq_true rfl) (c9_tenantIs _ _ _) (fun r19 => ?_)
  exact J_iret dX9_ofTenant_108 rfl rfl
set_option maxRecDepth 20000 in
theorem c9_ofTenant (a1 : Int32) (a2 : Int32) (μ : JMu) : ∀ b, f9_ofTenant a1 a2 μ = some b → JC m9_ofTenant 5 mPl [.ref 86, .int (a1), .int (a2)] μ (some (.int b.1), b.2) := by
  refine JC_of (emb := (fun b : Int32 × JMu => (some (.int b.1), b.2))) (L0 := [some (.ref 86), some (.int (a1)), some (.int (a2))]) sm9_ofTenant (Nat.le_of_ble_eq_true rfl) rfl ?_
  unfold f9_ofTenant
  refine J_aload_n dX9_ofTenant_0 rfl ?_
  refine J_iload_n dX9_ofTenant_1 rfl ?_
  refine J_callV_i (M' := m9_isTenant) (as := [_]) dX9_ofTenant_2 lX9_227 sm9_isTenant sm9_isTenant_w jo_mPl_86 hci_X9 (by decide) rfl (Nat.le_of_ble_eq_true rfl) (c9_isTenant _ _) (fun r20 => ?_)
  refine J_if_eq dX9_ofTenant_5 (tgt := 18) (by decide) (fun c21 => ?_) (fun c21 => ?_)
  · refine JF_drop [1, 2] ?_
    exact c9_ofTenant_b18  _
  · refine J_iload_n dX9_ofTenant_8 rfl ?_
    refine J_iconst dX9_ofTenant_9 (v := (0 : Int32)) rfl ?_
    refine J_bipush dX9_ofTenant_10 (v := (7 : Int32)) rfl ?_
    refine J_callS_i (M' := m9_within) (as := [_, _, _]) dX9_ofTenant_12 lX9_76 sm9_within sm9_within_w (by decide) rfl (Nat.le_of_ble_eq_true rfl) (c9_within _ _ _ _) (fun r22 => ?_)
    refine J_if_ne dX9_ofTenant_15 (tgt := 25) (by decide) (fun c23 => ?_) (fun c23 => ?_)
    · refine JF_drop [1, 2] ?_
      exact c9_ofTenant_b18  _
    · refine J_iload_n dX9_ofTenant_25 rfl ?_
      refine JF_ite (fun c24 => ?_) (fun c24 => ?_)
      · refine J_tabIn (3 : Int32) dX9_ofTenant_26 (tgt := 60)  c24 (by decide) (by decide) rfl (by decide) ?_
        refine J_aload_n dX9_ofTenant_60 rfl ?_
        refine J_iload_n dX9_ofTenant_61 rfl ?_
        refine J_iconst dX9_ofTenant_62 (v := (3 : Int32)) rfl ?_
        refine J_callV_i (M' := m9_tenantIs) (as := [_, _]) dX9_ofTenant_63 lX9_179 sm9_tenantIs sm9_tenantIs_w jo_mPl_86 hci_X9 (by decide) rfl (Nat.le_of_ble_eq_true rfl) (c9_tenantIs _ _ _) (fun r25 => ?_)
        refine J_ldc dX9_ofTenant_66 kX9_230 ?_
        refine J_iadd dX9_ofTenant_68 ?_
        exact J_iret dX9_ofTenant_69 rfl rfl
      · refine JF_ite (fun c26 => ?_) (fun c26 => ?_)
        · refine J_tabIn (4 : Int32) dX9_ofTenant_26 (tgt := 102)  c26 (by decide) (by decide) rfl (by decide) ?_
          exact c9_ofTenant_b102 _ _ _
        · refine JF_ite (fun c27 => ?_) (fun c27 => ?_)
          · refine J_tabIn (5 : Int32) dX9_ofTenant_26 (tgt := 70)  c27 (by decide) (by decide) rfl (by decide) ?_
            refine J_aload_n dX9_ofTenant_70 rfl ?_
            refine J_iload_n dX9_ofTenant_71 rfl ?_
            refine J_callV_i (M' := m9_looks) (as := [_]) dX9_ofTenant_72 lX9_224 sm9_looks sm9_looks_w jo_mPl_86 hci_X9 (by decide) rfl (Nat.le_of_ble_eq_true rfl) (c9_looks _ _) (fun r28 => ?_)
            refine J_if_eq dX9_ofTenant_75 (tgt := 82) (by decide) (fun c29 => ?_) (fun c29 => ?_)
            · refine J_iconst dX9_ofTenant_82 (v := (0 : Int32)) rfl ?_
              exact J_iret dX9_ofTenant_83 rfl rfl
            · refine J_iconst dX9_ofTenant_78 (v := (1 : Int32)) rfl ?_
              refine J_goto dX9_ofTenant_79 (tgt := 83) (by decide) ?_
              exact J_iret dX9_ofTenant_83 rfl rfl
          · refine JF_ite (fun c30 => ?_) (fun c30 => ?_)
            · refine J_tabIn (6 : Int32) dX9_ofTenant_26 (tgt := 84)  c30 (by decide) (by decide) rfl (by decide) ?_
              refine J_aload_n dX9_ofTenant_84 rfl ?_
              refine J_iload_n dX9_ofTenant_85 rfl ?_
              refine J_iconst dX9_ofTenant_86 (v := (2 : Int32)) rfl ?_
              refine J_callV_i (M' := m9_tenantIs) (as := [_, _]) dX9_ofTenant_87 lX9_179 sm9_tenantIs sm9_tenantIs_w jo_mPl_86 hci_X9 (by decide) rfl (Nat.le_of_ble_eq_true rfl) (c9_tenantIs _ _ _) (fun r31 => ?_)
              refine J_aload_n dX9_ofTenant_90 rfl ?_
              refine J_callV_w (M' := m9_seenNow) (as := []) dX9_ofTenant_91 lX9_195 sm9_seenNow sm9_seenNow_w jo_mPl_86 hci_X9 (by decide) rfl (Nat.le_of_ble_eq_true rfl) (c9_seenNow  _) (fun r32 => ?_)
              refine J_iand dX9_ofTenant_94 ?_
              exact J_iret dX9_ofTenant_95 rfl rfl
            · refine JF_ite (fun c33 => ?_) (fun c33 => ?_)
              · refine J_tabIn (7 : Int32) dX9_ofTenant_26 (tgt := 96)  c33 (by decide) (by decide) rfl (by decide) ?_
                refine J_aload_n dX9_ofTenant_96 rfl ?_
                refine J_iload_n dX9_ofTenant_97 rfl ?_
                refine J_callV_w (M' := m9_owes) (as := [_]) dX9_ofTenant_98 lX9_231 sm9_owes sm9_owes_w jo_mPl_86 hci_X9 (by decide) rfl (Nat.le_of_ble_eq_true rfl) (c9_owes _ _) (fun r34 => ?_)
                exact J_iret dX9_ofTenant_101 rfl rfl
              · refine J_tabOut dX9_ofTenant_26 (tgt := 102) (by have z0 := lv_neT c24 (k := (3 : Int32)) (a := 3) rfl; have z1 := lv_neT c26 (k := (4 : Int32)) (a := 4) rfl; have z2 := lv_neT c27 (k := (5 : Int32)) (a := 5) rfl; have z3 := lv_neT c30 (k := (6 : Int32)) (a := 6) rfl; have z4 := lv_neT c33 (k := (7 : Int32)) (a := 7) rfl; omega) (by decide) ?_
                exact c9_ofTenant_b102 _ _ _
set_option maxRecDepth 20000 in
theorem c9_become_b15 (μ : JMu) : JF m9_become 2 mPl (fun b : Int32 × JMu => (some (.int b.1), b.2)) 15 [some (.ref 86), none, none] [] μ (f9_become_b15  μ) := by
  unfold f9_become_b15
  refine J_aload_n dX9_become_15 rfl ?_
  refine J_ldc dX9_become_16 kX9_80 ?_
  refine J_callV_w (M' := m9_finding) (as := [_]) dX9_become_18 lX9_81 sm9_finding sm9_finding_w jo_mPl_86 hci_X9 (by decide) rfl (Nat.le_of_ble_eq_true rfl) (c9_finding _ _) (fun r10 => ?_)
  exact J_iret dX9_become_21 rfl rfl
set_option maxRecDepth 20000 in
theorem c9_become (a1 : Int32) (a2 : Int32) (μ : JMu) : ∀ b, f9_become a1 a2 μ = some b → JC m9_become 2 mPl [.ref 86, .int (a1), .int (a2)] μ (some (.int b.1), b.2) := by
  refine JC_of (emb := (fun b : Int32 × JMu => (some (.int b.1), b.2))) (L0 := [some (.ref 86), some (.int (a1)), some (.int (a2))]) sm9_become (Nat.le_of_ble_eq_true rfl) rfl ?_
  unfold f9_become
  refine J_aload_n dX9_become_0 rfl ?_
  refine J_iload_n dX9_become_1 rfl ?_
  refine J_callV_i (M' := m9_isTenant) (as := [_]) dX9_become_2 lX9_227 sm9_isTenant sm9_isTenant_w jo_mPl_86 hci_X9 (by decide) rfl (Nat.le_of_ble_eq_true rfl) (c9_isTenant _ _) (fun r11 => ?_)
  refine J_if_eq dX9_become_5 (tgt := 15) (by decide) (fun c12 => ?_) (fun c12 => ?_)
  · refine JF_drop [1, 2] ?_
    exact c9_become_b15  _
  · refine J_iload_n dX9_become_8 rfl ?_
    refine J_callS_i (M' := m9_isKindM) (as := [_]) dX9_become_9 lX9_206 sm9_isKindM sm9_isKindM_w (by decide) rfl (Nat.le_of_ble_eq_true rfl) (c9_isKindM _ _) (fun r13 => ?_)
    refine J_if_ne dX9_become_12 (tgt := 22) (by decide) (fun c14 => ?_) (fun c14 => ?_)
    · refine JF_drop [1, 2] ?_
      exact c9_become_b15  _
    · refine J_aload_n dX9_become_22 rfl ?_
      refine J_getR dX9_become_23 wX9_9 rfl jo_mPl_86 jr_86_0 ?_
      refine J_iload_n dX9_become_26 rfl ?_
      refine J_iconst dX9_become_27 (v := (1 : Int32)) rfl ?_
      refine J_callS_i (M' := m9_at) (as := [_, _]) dX9_become_28 lX9_204 sm9_at sm9_at_w (by decide) rfl (Nat.le_of_ble_eq_true rfl) (c9_at _ _ _) (fun r15 => ?_)
      refine J_iload_n dX9_become_31 rfl ?_
      refine J_bipush dX9_become_32 (v := (10 : Int32)) rfl ?_
      refine J_irem dX9_become_34 (by decide) ?_
      refine JF_chk (fun c18 => ?_)
      refine J_iast dX9_become_35 ji_mPl_87 jl_87 (jin_spec c18) rfl ?_
      refine J_aload_n dX9_become_36 rfl ?_
      refine J_iload_n dX9_become_37 rfl ?_
      refine J_iconst dX9_become_38 (v := (0 : Int32)) rfl ?_
      refine J_callS_i (M' := m9_at) (as := [_, _]) dX9_become_39 lX9_204 sm9_at sm9_at_w (by decide) rfl (Nat.le_of_ble_eq_true rfl) (c9_at _ _ _) (fun r16 => ?_)
      refine J_iload_n dX9_become_42 rfl ?_
      refine J_bipush dX9_become_43 (v := (10 : Int32)) rfl ?_
      refine J_idiv dX9_become_45 (by decide) ?_
      refine J_callV_w (M' := m9_turn) (as := [_, _]) dX9_become_46 lX9_201 sm9_turn sm9_turn_w jo_mPl_86 hci_X9 (by decide) rfl (Nat.le_of_ble_eq_true rfl) (c9_turn _ _ _) (fun r17 => ?_)
      exact J_iret dX9_become_49 rfl rfl
set_option maxRecDepth 20000 in
theorem c9_as_b18 (μ : JMu) : JF m9_as 3 mPl (fun b : Int32 × JMu => (some (.int b.1), b.2)) 18 [some (.ref 86), none, none] [] μ (f9_as_b18  μ) := by
  unfold f9_as_b18
  refine J_aload_n dX9_as_18 rfl ?_
  refine J_ldc dX9_as_19 kX9_80 ?_
  refine J_callV_w (M' := m9_finding) (as := [_]) dX9_as_21 lX9_81 sm9_finding sm9_finding_w jo_mPl_86 hci_X9 (by decide) rfl (Nat.le_of_ble_eq_true rfl) (c9_finding _ _) (fun r10 => ?_)
  exact J_iret dX9_as_24 rfl rfl
set_option maxRecDepth 20000 in
theorem c9_as (a1 : Int32) (a2 : Int32) (μ : JMu) : ∀ b, f9_as a1 a2 μ = some b → JC m9_as 3 mPl [.ref 86, .int (a1), .int (a2)] μ (some (.int b.1), b.2) := by
  refine JC_of (emb := (fun b : Int32 × JMu => (some (.int b.1), b.2))) (L0 := [some (.ref 86), some (.int (a1)), some (.int (a2))]) sm9_as (Nat.le_of_ble_eq_true rfl) rfl ?_
  unfold f9_as
  refine J_aload_n dX9_as_0 rfl ?_
  refine J_iload_n dX9_as_1 rfl ?_
  refine J_callV_i (M' := m9_isTenant) (as := [_]) dX9_as_2 lX9_227 sm9_isTenant sm9_isTenant_w jo_mPl_86 hci_X9 (by decide) rfl (Nat.le_of_ble_eq_true rfl) (c9_isTenant _ _) (fun r11 => ?_)
  refine J_if_eq dX9_as_5 (tgt := 18) (by decide) (fun c12 => ?_) (fun c12 => ?_)
  · refine JF_drop [1, 2] ?_
    exact c9_as_b18  _
  · refine J_iload_n dX9_as_8 rfl ?_
    refine J_iconst dX9_as_9 (v := (0 : Int32)) rfl ?_
    refine J_bipush dX9_as_10 (v := (6 : Int32)) rfl ?_
    refine J_callS_i (M' := m9_within) (as := [_, _, _]) dX9_as_12 lX9_76 sm9_within sm9_within_w (by decide) rfl (Nat.le_of_ble_eq_true rfl) (c9_within _ _ _ _) (fun r13 => ?_)
    refine J_if_ne dX9_as_15 (tgt := 25) (by decide) (fun c14 => ?_) (fun c14 => ?_)
    · refine JF_drop [1, 2] ?_
      exact c9_as_b18  _
    · refine J_aload_n dX9_as_25 rfl ?_
      refine J_iload_n dX9_as_26 rfl ?_
      refine J_iload_n dX9_as_27 rfl ?_
      refine J_callV_i (M' := m9_isOf) (as := [_, _]) dX9_as_28 lX9_218 sm9_isOf sm9_isOf_w jo_mPl_86 hci_X9 (by decide) rfl (Nat.le_of_ble_eq_true rfl) (c9_isOf _ _ _) (fun r15 => ?_)
      refine J_if_eq dX9_as_31 (tgt := 43) (by decide) (fun c16 => ?_) (fun c16 => ?_)
      · refine J_aload_n dX9_as_43 rfl ?_
        refine J_ldc dX9_as_44 kX9_234 ?_
        refine J_callV_w (M' := m9_finding) (as := [_]) dX9_as_46 lX9_81 sm9_finding sm9_finding_w jo_mPl_86 hci_X9 (by decide) rfl (Nat.le_of_ble_eq_true rfl) (c9_finding _ _) (fun r17 => ?_)
        exact J_iret dX9_as_49 rfl rfl
      · refine J_aload_n dX9_as_34 rfl ?_
        refine J_iload_n dX9_as_35 rfl ?_
        refine J_iconst dX9_as_36 (v := (1 : Int32)) rfl ?_
        refine J_callV_i (M' := m9_tenantIs) (as := [_, _]) dX9_as_37 lX9_179 sm9_tenantIs sm9_tenantIs_w jo_mPl_86 hci_X9 (by decide) rfl (Nat.le_of_ble_eq_true rfl) (c9_tenantIs _ _ _) (fun r18 => ?_)
        refine J_goto dX9_as_40 (tgt := 49) (by decide) ?_
        exact J_iret dX9_as_49 rfl rfl
set_option maxRecDepth 20000 in
theorem c9_isSet (a1 : Int32) (μ : JMu) : ∀ b, f9_isSet a1 = some b → JC m9_isSet 1 mPl [.int (a1)] μ (some (.int b), μ) := by
  refine JC_of (emb := (fun b : Int32 => (some (.int b), μ))) (L0 := [some (.int (a1))]) sm9_isSet (Nat.le_of_ble_eq_true rfl) rfl ?_
  unfold f9_isSet
  refine J_iload_n dX9_isSet_0 rfl ?_
  refine J_iconst dX9_isSet_1 (v := (0 : Int32)) rfl ?_
  refine J_ldc dX9_isSet_2 kX9_235 ?_
  refine J_callS_i (M' := m9_within) (as := [_, _, _]) dX9_isSet_4 lX9_76 sm9_within sm9_within_w (by decide) rfl (Nat.le_of_ble_eq_true rfl) (c9_within _ _ _ _) (fun r3 => ?_)
  refine JF_chk (fun c4 => ?_)
  exact J_zret dX9_isSet_7 rfl c4 rfl
set_option maxRecDepth 20000 in
theorem c9_lease_b15 (μ : JMu) : JF m9_lease 3 mPl (fun b : Int32 × JMu => (some (.int b.1), b.2)) 15 [some (.ref 86), none, none] [] μ (f9_lease_b15  μ) := by
  unfold f9_lease_b15
  refine J_aload_n dX9_lease_15 rfl ?_
  refine J_ldc dX9_lease_16 kX9_80 ?_
  refine J_callV_w (M' := m9_finding) (as := [_]) dX9_lease_18 lX9_81 sm9_finding sm9_finding_w jo_mPl_86 hci_X9 (by decide) rfl (Nat.le_of_ble_eq_true rfl) (c9_finding _ _) (fun r11 => ?_)
  exact J_iret dX9_lease_21 rfl rfl
set_option maxRecDepth 20000 in
theorem c9_lease (a1 : Int32) (a2 : Int32) (μ : JMu) : ∀ b, f9_lease a1 a2 μ = some b → JC m9_lease 3 mPl [.ref 86, .int (a1), .int (a2)] μ (some (.int b.1), b.2) := by
  refine JC_of (emb := (fun b : Int32 × JMu => (some (.int b.1), b.2))) (L0 := [some (.ref 86), some (.int (a1)), some (.int (a2))]) sm9_lease (Nat.le_of_ble_eq_true rfl) rfl ?_
  unfold f9_lease
  refine J_aload_n dX9_lease_0 rfl ?_
  refine J_iload_n dX9_lease_1 rfl ?_
  refine J_callV_i (M' := m9_isTenant) (as := [_]) dX9_lease_2 lX9_227 sm9_isTenant sm9_isTenant_w jo_mPl_86 hci_X9 (by decide) rfl (Nat.le_of_ble_eq_true rfl) (c9_isTenant _ _) (fun r12 => ?_)
  refine J_if_eq dX9_lease_5 (tgt := 15) (by decide) (fun c13 => ?_) (fun c13 => ?_)
  · refine JF_drop [1, 2] ?_
    exact c9_lease_b15  _
  · refine J_iload_n dX9_lease_8 rfl ?_
    refine J_callS_i (M' := m9_isSet) (as := [_]) dX9_lease_9 lX9_236 sm9_isSet sm9_isSet_w (by decide) rfl (Nat.le_of_ble_eq_true rfl) (c9_isSet _ _) (fun r14 => ?_)
    refine J_if_ne dX9_lease_12 (tgt := 22) (by decide) (fun c15 => ?_) (fun c15 => ?_)
    · refine JF_drop [1, 2] ?_
      exact c9_lease_b15  _
    · refine J_aload_n dX9_lease_22 rfl ?_
      refine J_iload_n dX9_lease_23 rfl ?_
      refine J_callV_i (M' := m9_isOut) (as := [_]) dX9_lease_24 lX9_239 sm9_isOut sm9_isOut_w jo_mPl_86 hci_X9 (by decide) rfl (Nat.le_of_ble_eq_true rfl) (c9_isOut _ _) (fun r16 => ?_)
      refine J_if_eq dX9_lease_27 (tgt := 39) (by decide) (fun c17 => ?_) (fun c17 => ?_)
      · refine J_aload_n dX9_lease_39 rfl ?_
        refine J_iload_n dX9_lease_40 rfl ?_
        refine J_iconst dX9_lease_41 (v := (2 : Int32)) rfl ?_
        refine J_callS_i (M' := m9_at) (as := [_, _]) dX9_lease_42 lX9_204 sm9_at sm9_at_w (by decide) rfl (Nat.le_of_ble_eq_true rfl) (c9_at _ _ _) (fun r18 => ?_)
        refine J_iload_n dX9_lease_45 rfl ?_
        refine J_callV_w (M' := m9_turn) (as := [_, _]) dX9_lease_46 lX9_201 sm9_turn sm9_turn_w jo_mPl_86 hci_X9 (by decide) rfl (Nat.le_of_ble_eq_true rfl) (c9_turn _ _ _) (fun r19 => ?_)
        exact J_iret dX9_lease_49 rfl rfl
      · refine J_aload_n dX9_lease_30 rfl ?_
        refine J_ldc dX9_lease_31 kX9_242 ?_
        refine J_callV_w (M' := m9_finding) (as := [_]) dX9_lease_33 lX9_81 sm9_finding sm9_finding_w jo_mPl_86 hci_X9 (by decide) rfl (Nat.le_of_ble_eq_true rfl) (c9_finding _ _) (fun r20 => ?_)
        refine J_goto dX9_lease_36 (tgt := 49) (by decide) ?_
        exact J_iret dX9_lease_49 rfl rfl
set_option maxRecDepth 20000 in
theorem c9_purse_b21 (μ : JMu) : JF m9_purse 2 mPl (fun b : Int32 × JMu => (some (.int b.1), b.2)) 21 [some (.ref 86), none, none] [] μ (f9_purse_b21  μ) := by
  unfold f9_purse_b21
  refine J_aload_n dX9_purse_21 rfl ?_
  refine J_ldc dX9_purse_22 kX9_80 ?_
  refine J_callV_w (M' := m9_finding) (as := [_]) dX9_purse_24 lX9_81 sm9_finding sm9_finding_w jo_mPl_86 hci_X9 (by decide) rfl (Nat.le_of_ble_eq_true rfl) (c9_finding _ _) (fun r8 => ?_)
  exact J_iret dX9_purse_27 rfl rfl
set_option maxRecDepth 20000 in
theorem c9_purse (a1 : Int32) (a2 : Int32) (μ : JMu) : ∀ b, f9_purse a1 a2 μ = some b → JC m9_purse 2 mPl [.ref 86, .int (a1), .int (a2)] μ (some (.int b.1), b.2) := by
  refine JC_of (emb := (fun b : Int32 × JMu => (some (.int b.1), b.2))) (L0 := [some (.ref 86), some (.int (a1)), some (.int (a2))]) sm9_purse (Nat.le_of_ble_eq_true rfl) rfl ?_
  unfold f9_purse
  refine J_aload_n dX9_purse_0 rfl ?_
  refine J_iload_n dX9_purse_1 rfl ?_
  refine J_callV_i (M' := m9_isTenant) (as := [_]) dX9_purse_2 lX9_227 sm9_isTenant sm9_isTenant_w jo_mPl_86 hci_X9 (by decide) rfl (Nat.le_of_ble_eq_true rfl) (c9_isTenant _ _) (fun r9 => ?_)
  refine J_if_eq dX9_purse_5 (tgt := 21) (by decide) (fun c10 => ?_) (fun c10 => ?_)
  · refine JF_drop [1, 2] ?_
    exact c9_purse_b21  _
  · refine J_iload_n dX9_purse_8 rfl ?_
    refine J_sipush dX9_purse_9 (v := (-9999 : Int32)) rfl ?_
    refine J_sipush dX9_purse_12 (v := (9999 : Int32)) rfl ?_
    refine J_callS_i (M' := m9_within) (as := [_, _, _]) dX9_purse_15 lX9_76 sm9_within sm9_within_w (by decide) rfl (Nat.le_of_ble_eq_true rfl) (c9_within _ _ _ _) (fun r11 => ?_)
    refine J_if_ne dX9_purse_18 (tgt := 28) (by decide) (fun c12 => ?_) (fun c12 => ?_)
    · refine JF_drop [1, 2] ?_
      exact c9_purse_b21  _
    · refine J_aload_n dX9_purse_28 rfl ?_
      refine J_iload_n dX9_purse_29 rfl ?_
      refine J_iconst dX9_purse_30 (v := (3 : Int32)) rfl ?_
      refine J_callS_i (M' := m9_at) (as := [_, _]) dX9_purse_31 lX9_204 sm9_at sm9_at_w (by decide) rfl (Nat.le_of_ble_eq_true rfl) (c9_at _ _ _) (fun r13 => ?_)
      refine J_iload_n dX9_purse_34 rfl ?_
      refine J_callV_w (M' := m9_turn) (as := [_, _]) dX9_purse_35 lX9_201 sm9_turn sm9_turn_w jo_mPl_86 hci_X9 (by decide) rfl (Nat.le_of_ble_eq_true rfl) (c9_turn _ _ _) (fun r14 => ?_)
      refine J_ldc dX9_purse_38 kX9_230 ?_
      refine J_iadd dX9_purse_40 ?_
      exact J_iret dX9_purse_41 rfl rfl
set_option maxRecDepth 20000 in
theorem c9_manyOut_b4 (μ : JMu) (n : Nat) : ∀ (v1 : Int32) (v2 : Int32), JF m9_manyOut 2 mPl (fun b : Int32 => (some (.int b), μ)) 4 [some (.ref 86), some (.int (v1)), some (.int (v2))] [] μ (f9_manyOut_b4 n v1 v2 μ) := by
  induction n with
  | zero => intros; exact JF_none
  | succ n ih =>
    intro v1 v2
    rw [f9_manyOut_b4]
    refine J_iload_n dX9_manyOut_4 rfl ?_
    refine J_aload_n dX9_manyOut_5 rfl ?_
    refine J_getR dX9_manyOut_6 wX9_9 rfl jo_mPl_86 jr_86_0 ?_
    refine J_iconst dX9_manyOut_9 (v := (1 : Int32)) rfl ?_
    refine J_iald dX9_manyOut_10 ji_mPl_87 jl_87 (jin_spec (by decide)) (j := 1) rfl ?_
    refine J_icmp_ge dX9_manyOut_11 (tgt := 29) (by decide) (fun c4 => ?_) (fun c4 => ?_)
    · refine J_iload_n dX9_manyOut_29 rfl ?_
      exact J_iret dX9_manyOut_30 rfl rfl
    · refine J_iload_n dX9_manyOut_14 rfl ?_
      refine J_aload_n dX9_manyOut_15 rfl ?_
      refine J_iload_n dX9_manyOut_16 rfl ?_
      refine J_iconst dX9_manyOut_17 (v := (4 : Int32)) rfl ?_
      refine J_callV_i (M' := m9_tenantIs) (as := [_, _]) dX9_manyOut_18 lX9_179 sm9_tenantIs sm9_tenantIs_w jo_mPl_86 hci_X9 (by decide) rfl (Nat.le_of_ble_eq_true rfl) (c9_tenantIs _ _ _) (fun r5 => ?_)
      refine J_iadd dX9_manyOut_21 ?_
      refine J_istore_n dX9_manyOut_22  (by decide) rfl ?_
      refine J_iinc dX9_manyOut_23 rfl (c0 := (1 : Int32)) rfl (by decide) rfl ?_
      refine J_goto dX9_manyOut_26 (tgt := 4) (by decide) ?_
      exact ih _ _
set_option maxRecDepth 20000 in
theorem c9_manyOut (μ : JMu) : ∀ b, f9_manyOut  μ = some b → JC m9_manyOut 2 mPl [.ref 86] μ (some (.int b), μ) := by
  refine JC_of (emb := (fun b : Int32 => (some (.int b), μ))) (L0 := [some (.ref 86), none, none]) sm9_manyOut (Nat.le_of_ble_eq_true rfl) rfl ?_
  unfold f9_manyOut
  refine J_iconst dX9_manyOut_0 (v := (0 : Int32)) rfl ?_
  refine J_istore_n dX9_manyOut_1  (by decide) rfl ?_
  refine J_iconst dX9_manyOut_2 (v := (0 : Int32)) rfl ?_
  refine J_istore_n dX9_manyOut_3  (by decide) rfl ?_
  exact c9_manyOut_b4 μ jN _ _
set_option maxRecDepth 20000 in
theorem c9_pardon (a1 : Int32) (μ : JMu) : ∀ b, f9_pardon a1 μ = some b → JC m9_pardon 3 mPl [.ref 86, .int (a1)] μ (some (.int b.1), b.2) := by
  refine JC_of (emb := (fun b : Int32 × JMu => (some (.int b.1), b.2))) (L0 := [some (.ref 86), some (.int (a1))]) sm9_pardon (Nat.le_of_ble_eq_true rfl) rfl ?_
  unfold f9_pardon
  refine J_aload_n dX9_pardon_0 rfl ?_
  refine J_iload_n dX9_pardon_1 rfl ?_
  refine J_callV_i (M' := m9_isTenant) (as := [_]) dX9_pardon_2 lX9_227 sm9_isTenant sm9_isTenant_w jo_mPl_86 hci_X9 (by decide) rfl (Nat.le_of_ble_eq_true rfl) (c9_isTenant _ _) (fun r12 => ?_)
  refine J_if_ne dX9_pardon_5 (tgt := 15) (by decide) (fun c13 => ?_) (fun c13 => ?_)
  · refine J_aload_n dX9_pardon_8 rfl ?_
    refine J_ldc dX9_pardon_9 kX9_80 ?_
    refine J_callV_w (M' := m9_finding) (as := [_]) dX9_pardon_11 lX9_81 sm9_finding sm9_finding_w jo_mPl_86 hci_X9 (by decide) rfl (Nat.le_of_ble_eq_true rfl) (c9_finding _ _) (fun r22 => ?_)
    exact J_iret dX9_pardon_14 rfl rfl
  · refine J_aload_n dX9_pardon_15 rfl ?_
    refine J_iload_n dX9_pardon_16 rfl ?_
    refine J_callV_i (M' := m9_isOut) (as := [_]) dX9_pardon_17 lX9_239 sm9_isOut sm9_isOut_w jo_mPl_86 hci_X9 (by decide) rfl (Nat.le_of_ble_eq_true rfl) (c9_isOut _ _) (fun r14 => ?_)
    refine J_if_ne dX9_pardon_20 (tgt := 30) (by decide) (fun c15 => ?_) (fun c15 => ?_)
    · refine J_aload_n dX9_pardon_23 rfl ?_
      refine J_ldc dX9_pardon_24 kX9_242 ?_
      refine J_callV_w (M' := m9_finding) (as := [_]) dX9_pardon_26 lX9_81 sm9_finding sm9_finding_w jo_mPl_86 hci_X9 (by decide) rfl (Nat.le_of_ble_eq_true rfl) (c9_finding _ _) (fun r21 => ?_)
      exact J_iret dX9_pardon_29 rfl rfl
    · refine J_aload_n dX9_pardon_30 rfl ?_
      refine J_getR dX9_pardon_31 wX9_9 rfl jo_mPl_86 jr_86_0 ?_
      refine J_iload_n dX9_pardon_34 rfl ?_
      refine J_iconst dX9_pardon_35 (v := (4 : Int32)) rfl ?_
      refine J_callS_i (M' := m9_at) (as := [_, _]) dX9_pardon_36 lX9_204 sm9_at sm9_at_w (by decide) rfl (Nat.le_of_ble_eq_true rfl) (c9_at _ _ _) (fun r16 => ?_)
      refine J_iconst dX9_pardon_39 (v := (0 : Int32)) rfl ?_
      refine JF_chk (fun c20 => ?_)
      refine J_iast dX9_pardon_40 ji_mPl_87 jl_87 (jin_spec c20) rfl ?_
      refine J_aload_n dX9_pardon_41 rfl ?_
      refine J_getR dX9_pardon_42 wX9_9 rfl jo_mPl_86 jr_86_0 ?_
      refine J_iload_n dX9_pardon_45 rfl ?_
      refine J_iconst dX9_pardon_46 (v := (3 : Int32)) rfl ?_
      refine J_callS_i (M' := m9_at) (as := [_, _]) dX9_pardon_47 lX9_204 sm9_at sm9_at_w (by decide) rfl (Nat.le_of_ble_eq_true rfl) (c9_at _ _ _) (fun r17 => ?_)
      refine J_iconst dX9_pardon_50 (v := (0 : Int32)) rfl ?_
      refine JF_chk (fun c19 => ?_)
      refine J_iast dX9_pardon_51 ji_mPl_87 jl_87 (jin_spec c19) rfl ?_
      refine J_aload_n dX9_pardon_52 rfl ?_
      refine J_callV_i (M' := m9_manyOut) (as := []) dX9_pardon_53 lX9_243 sm9_manyOut sm9_manyOut_w jo_mPl_86 hci_X9 (by decide) rfl (Nat.le_of_ble_eq_true rfl) (c9_manyOut  _) (fun r18 => ?_)
      exact J_iret dX9_pardon_56 rfl rfl
set_option maxRecDepth 20000 in
theorem c9_pays (a1 : Int32) (μ : JMu) : ∀ b, f9_pays a1 μ = some b → JC m9_pays 5 mPl [.ref 86, .int (a1)] μ (none, b) := by
  refine JC_of (emb := (fun b : JMu => (none, b))) (L0 := [some (.ref 86), some (.int (a1))]) sm9_pays (Nat.le_of_ble_eq_true rfl) rfl ?_
  unfold f9_pays
  refine J_aload_n dX9_pays_0 rfl ?_
  refine J_getR dX9_pays_1 wX9_9 rfl jo_mPl_86 jr_86_0 ?_
  refine J_iload_n dX9_pays_4 rfl ?_
  refine J_iconst dX9_pays_5 (v := (3 : Int32)) rfl ?_
  refine J_callS_i (M' := m9_at) (as := [_, _]) dX9_pays_6 lX9_204 sm9_at sm9_at_w (by decide) rfl (Nat.le_of_ble_eq_true rfl) (c9_at _ _ _) (fun r11 => ?_)
  refine J_sipush dX9_pays_9 (v := (-9999 : Int32)) rfl ?_
  refine J_aload_n dX9_pays_12 rfl ?_
  refine J_iload_n dX9_pays_13 rfl ?_
  refine J_iconst dX9_pays_14 (v := (3 : Int32)) rfl ?_
  refine J_callV_i (M' := m9_tenantIs) (as := [_, _]) dX9_pays_15 lX9_179 sm9_tenantIs sm9_tenantIs_w jo_mPl_86 hci_X9 (by decide) rfl (Nat.le_of_ble_eq_true rfl) (c9_tenantIs _ _ _) (fun r12 => ?_)
  refine J_aload_n dX9_pays_18 rfl ?_
  refine J_iload_n dX9_pays_19 rfl ?_
  refine J_callV_w (M' := m9_owes) (as := [_]) dX9_pays_20 lX9_231 sm9_owes sm9_owes_w jo_mPl_86 hci_X9 (by decide) rfl (Nat.le_of_ble_eq_true rfl) (c9_owes _ _) (fun r13 => ?_)
  refine J_isub dX9_pays_23 ?_
  refine J_max dX9_pays_24 lX9_69 wm_max_s wm_i wm_max_c (by decide) (Nat.le_of_ble_eq_true rfl) ?_
  refine JF_chk (fun c20 => ?_)
  refine J_iast dX9_pays_27 ji_mPl_87 jl_87 (jin_spec c20) rfl ?_
  refine J_aload_n dX9_pays_28 rfl ?_
  refine J_iload_n dX9_pays_29 rfl ?_
  refine J_iconst dX9_pays_30 (v := (3 : Int32)) rfl ?_
  refine J_callV_i (M' := m9_tenantIs) (as := [_, _]) dX9_pays_31 lX9_179 sm9_tenantIs sm9_tenantIs_w jo_mPl_86 hci_X9 (by decide) rfl (Nat.le_of_ble_eq_true rfl) (c9_tenantIs _ _ _) (fun r14 => ?_)
  refine J_if_ge dX9_pays_34 (tgt := 59) (by decide) (fun c15 => ?_) (fun c15 => ?_)
  · exact J_vret dX9_pays_59 rfl rfl
  · refine J_aload_n dX9_pays_37 rfl ?_
    refine J_getR dX9_pays_38 wX9_9 rfl jo_mPl_86 jr_86_0 ?_
    refine J_iload_n dX9_pays_41 rfl ?_
    refine J_iconst dX9_pays_42 (v := (4 : Int32)) rfl ?_
    refine J_callS_i (M' := m9_at) (as := [_, _]) dX9_pays_43 lX9_204 sm9_at sm9_at_w (by decide) rfl (Nat.le_of_ble_eq_true rfl) (c9_at _ _ _) (fun r16 => ?_)
    refine J_iconst dX9_pays_46 (v := (1 : Int32)) rfl ?_
    refine JF_chk (fun c19 => ?_)
    refine J_iast dX9_pays_47 ji_mPl_87 jl_87 (jin_spec c19) rfl ?_
    refine J_aload_n dX9_pays_48 rfl ?_
    refine J_getR dX9_pays_49 wX9_9 rfl jo_mPl_86 jr_86_0 ?_
    refine J_iload_n dX9_pays_52 rfl ?_
    refine J_iconst dX9_pays_53 (v := (2 : Int32)) rfl ?_
    refine J_callS_i (M' := m9_at) (as := [_, _]) dX9_pays_54 lX9_204 sm9_at sm9_at_w (by decide) rfl (Nat.le_of_ble_eq_true rfl) (c9_at _ _ _) (fun r17 => ?_)
    refine J_iconst dX9_pays_57 (v := (0 : Int32)) rfl ?_
    refine JF_chk (fun c18 => ?_)
    refine J_iast dX9_pays_58 ji_mPl_87 jl_87 (jin_spec c18) rfl ?_
    exact J_vret dX9_pays_59 rfl rfl
set_option maxRecDepth 20000 in
theorem c9_night_b56 (k2 : Int32 → JMu → Option (JMu)) (hk2 : ∀ (v1 : Int32) (μ : JMu), JF m9_night 6 mPl (fun b : JMu => (none, b)) 2 [some (.ref 86), some (.int (v1))] [] μ (k2 v1 μ)) (v1 : Int32) (s0 : Int32) (s1 : Int32) (μ : JMu) : JF m9_night 6 mPl (fun b : JMu => (none, b)) 56 [some (.ref 86), some (.int (v1))] [.int (s0), .int (s1), .ref 87] μ (f9_night_b56 k2 v1 s0 s1 μ) := by
  unfold f9_night_b56
  refine JF_chk (fun c19 => ?_)
  refine J_iast dX9_night_56 ji_mPl_87 jl_87 (jin_spec c19) rfl ?_
  refine J_iinc dX9_night_57 rfl (c0 := (1 : Int32)) rfl (by decide) rfl ?_
  refine J_goto dX9_night_60 (tgt := 2) (by decide) ?_
  exact hk2 _ _
set_option maxRecDepth 20000 in
theorem c9_night_b75 (n : Nat) : ∀ (v1 : Int32) (μ : JMu), JF m9_night 6 mPl (fun b : JMu => (none, b)) 75 [some (.ref 86), some (.int (v1))] [] μ (f9_night_b75 n v1 μ) := by
  induction n with
  | zero => intros; exact JF_none
  | succ n ih =>
    intro v1 μ
    rw [f9_night_b75]
    refine J_iload_n dX9_night_75 rfl ?_
    refine J_aload_n dX9_night_76 rfl ?_
    refine J_getR dX9_night_77 wX9_9 rfl jo_mPl_86 jr_86_0 ?_
    refine J_iconst dX9_night_80 (v := (1 : Int32)) rfl ?_
    refine J_iald dX9_night_81 ji_mPl_87 jl_87 (jin_spec (by decide)) (j := 1) rfl ?_
    refine J_icmp_ge dX9_night_82 (tgt := 115) (by decide) (fun c20 => ?_) (fun c20 => ?_)
    · exact J_vret dX9_night_115 rfl rfl
    · refine J_aload_n dX9_night_85 rfl ?_
      refine J_getR dX9_night_86 wX9_9 rfl jo_mPl_86 jr_86_0 ?_
      refine J_iconst dX9_night_89 (v := (0 : Int32)) rfl ?_
      refine J_iald dX9_night_90 ji_mPl_87 jl_87 (jin_spec (by decide)) (j := 0) rfl ?_
      refine J_iconst dX9_night_91 (v := (4 : Int32)) rfl ?_
      refine J_irem dX9_night_92 (by decide) ?_
      refine J_if_ne dX9_night_93 (tgt := 115) (by decide) (fun c21 => ?_) (fun c21 => ?_)
      · refine J_aload_n dX9_night_96 rfl ?_
        refine J_iload_n dX9_night_97 rfl ?_
        refine J_callV_i (M' := m9_isOut) (as := [_]) dX9_night_98 lX9_239 sm9_isOut sm9_isOut_w jo_mPl_86 hci_X9 (by decide) rfl (Nat.le_of_ble_eq_true rfl) (c9_isOut _ _) (fun r22 => ?_)
        refine J_if_ne dX9_night_101 (tgt := 109) (by decide) (fun c23 => ?_) (fun c23 => ?_)
        · refine J_aload_n dX9_night_104 rfl ?_
          refine J_iload_n dX9_night_105 rfl ?_
          refine J_callV_v (M' := m9_pays) (as := [_]) dX9_night_106 lX9_249 sm9_pays sm9_pays_w jo_mPl_86 hci_X9 (by decide) rfl (Nat.le_of_ble_eq_true rfl) (c9_pays _ _) (fun r24 => ?_)
          refine J_iinc dX9_night_109 rfl (c0 := (1 : Int32)) rfl (by decide) rfl ?_
          refine J_goto dX9_night_112 (tgt := 75) (by decide) ?_
          exact ih _ _
        · refine J_iinc dX9_night_109 rfl (c0 := (1 : Int32)) rfl (by decide) rfl ?_
          refine J_goto dX9_night_112 (tgt := 75) (by decide) ?_
          exact ih _ _
      · exact J_vret dX9_night_115 rfl rfl
set_option maxRecDepth 20000 in
theorem c9_night_b2 (n : Nat) : ∀ (v1 : Int32) (μ : JMu), JF m9_night 6 mPl (fun b : JMu => (none, b)) 2 [some (.ref 86), some (.int (v1))] [] μ (f9_night_b2 n v1 μ) := by
  induction n with
  | zero => intros; exact JF_none
  | succ n ih =>
    intro v1 μ
    rw [f9_night_b2]
    refine J_iload_n dX9_night_2 rfl ?_
    refine J_aload_n dX9_night_3 rfl ?_
    refine J_getR dX9_night_4 wX9_9 rfl jo_mPl_86 jr_86_0 ?_
    refine J_iconst dX9_night_7 (v := (1 : Int32)) rfl ?_
    refine J_iald dX9_night_8 ji_mPl_87 jl_87 (jin_spec (by decide)) (j := 1) rfl ?_
    refine J_icmp_ge dX9_night_9 (tgt := 63) (by decide) (fun c27 => ?_) (fun c27 => ?_)
    · refine J_aload_n dX9_night_63 rfl ?_
      refine J_getR dX9_night_64 wX9_9 rfl jo_mPl_86 jr_86_0 ?_
      refine J_iconst dX9_night_67 (v := (0 : Int32)) rfl ?_
      refine J_dup2 dX9_night_68 rfl rfl ?_
      refine J_iald dX9_night_69 ji_mPl_87 jl_87 (jin_spec (by decide)) (j := 0) rfl ?_
      refine J_iconst dX9_night_70 (v := (1 : Int32)) rfl ?_
      refine J_iadd dX9_night_71 ?_
      refine J_iast dX9_night_72 ji_mPl_87 jl_87 (jin_spec (by decide)) (j := 0) rfl ?_
      refine J_iconst dX9_night_73 (v := (0 : Int32)) rfl ?_
      refine J_istore_n dX9_night_74  (by decide) rfl ?_
      exact c9_night_b75 jN _ _
    · refine J_aload_n dX9_night_12 rfl ?_
      refine J_getR dX9_night_13 wX9_9 rfl jo_mPl_86 jr_86_0 ?_
      refine J_iload_n dX9_night_16 rfl ?_
      refine J_iconst dX9_night_17 (v := (3 : Int32)) rfl ?_
      refine J_callS_i (M' := m9_at) (as := [_, _]) dX9_night_18 lX9_204 sm9_at sm9_at_w (by decide) rfl (Nat.le_of_ble_eq_true rfl) (c9_at _ _ _) (fun r30 => ?_)
      refine J_aload_n dX9_night_21 rfl ?_
      refine J_iload_n dX9_night_22 rfl ?_
      refine J_callV_i (M' := m9_isOut) (as := [_]) dX9_night_23 lX9_239 sm9_isOut sm9_isOut_w jo_mPl_86 hci_X9 (by decide) rfl (Nat.le_of_ble_eq_true rfl) (c9_isOut _ _) (fun r31 => ?_)
      refine J_if_eq dX9_night_26 (tgt := 38) (by decide) (fun c32 => ?_) (fun c32 => ?_)
      · refine J_sipush dX9_night_38 (v := (9999 : Int32)) rfl ?_
        refine J_aload_n dX9_night_41 rfl ?_
        refine J_iload_n dX9_night_42 rfl ?_
        refine J_iconst dX9_night_43 (v := (3 : Int32)) rfl ?_
        refine J_callV_i (M' := m9_tenantIs) (as := [_, _]) dX9_night_44 lX9_179 sm9_tenantIs sm9_tenantIs_w jo_mPl_86 hci_X9 (by decide) rfl (Nat.le_of_ble_eq_true rfl) (c9_tenantIs _ _ _) (fun r33 => ?_)
        refine J_aload_n dX9_night_47 rfl ?_
        refine J_iload_n dX9_night_48 rfl ?_
        refine J_callV_w (M' := m9_earns) (as := [_]) dX9_night_49 lX9_246 sm9_earns sm9_earns_w jo_mPl_86 hci_X9 (by decide) rfl (Nat.le_of_ble_eq_true rfl) (c9_earns _ _) (fun r34 => ?_)
        refine J_iadd dX9_night_52 ?_
        refine J_min dX9_night_53 lX9_63 wm_min_s wm_i wm_min_c (by decide) (Nat.le_of_ble_eq_true rfl) ?_
        exact c9_night_b56 _ ih _ _ _ _
      · refine J_aload_n dX9_night_29 rfl ?_
        refine J_iload_n dX9_night_30 rfl ?_
        refine J_iconst dX9_night_31 (v := (3 : Int32)) rfl ?_
        refine J_callV_i (M' := m9_tenantIs) (as := [_, _]) dX9_night_32 lX9_179 sm9_tenantIs sm9_tenantIs_w jo_mPl_86 hci_X9 (by decide) rfl (Nat.le_of_ble_eq_true rfl) (c9_tenantIs _ _ _) (fun r35 => ?_)
        refine J_goto dX9_night_35 (tgt := 56) (by decide) ?_
        exact c9_night_b56 _ ih _ _ _ _
set_option maxRecDepth 20000 in
theorem c9_night (μ : JMu) : ∀ b, f9_night  μ = some b → JC m9_night 6 mPl [.ref 86] μ (none, b) := by
  refine JC_of (emb := (fun b : JMu => (none, b))) (L0 := [some (.ref 86), none]) sm9_night (Nat.le_of_ble_eq_true rfl) rfl ?_
  unfold f9_night
  refine J_iconst dX9_night_0 (v := (0 : Int32)) rfl ?_
  refine J_istore_n dX9_night_1  (by decide) rfl ?_
  exact c9_night_b2 jN _ _
set_option maxRecDepth 20000 in
theorem c9_pass_b2 (n : Nat) : ∀ (v1 : Int32) (v2 : Int32) (μ : JMu), JF m9_pass 7 mPl (fun b : JMu => (none, b)) 2 [some (.ref 86), some (.int (v1)), some (.int (v2))] [] μ (f9_pass_b2 n v1 v2 μ) := by
  induction n with
  | zero => intros; exact JF_none
  | succ n ih =>
    intro v1 v2 μ
    rw [f9_pass_b2]
    refine J_iload_n dX9_pass_2 rfl ?_
    refine J_iload_n dX9_pass_3 rfl ?_
    refine J_icmp_ge dX9_pass_4 (tgt := 17) (by decide) (fun c3 => ?_) (fun c3 => ?_)
    · exact J_vret dX9_pass_17 rfl rfl
    · refine J_aload_n dX9_pass_7 rfl ?_
      refine J_callV_v (M' := m9_night) (as := []) dX9_pass_8 lX9_252 sm9_night sm9_night_w jo_mPl_86 hci_X9 (by decide) rfl (Nat.le_of_ble_eq_true rfl) (c9_night  _) (fun r4 => ?_)
      refine J_iinc dX9_pass_11 rfl (c0 := (1 : Int32)) rfl (by decide) rfl ?_
      refine J_goto dX9_pass_14 (tgt := 2) (by decide) ?_
      exact ih _ _ _
set_option maxRecDepth 20000 in
theorem c9_pass (a1 : Int32) (μ : JMu) : ∀ b, f9_pass a1 μ = some b → JC m9_pass 7 mPl [.ref 86, .int (a1)] μ (none, b) := by
  refine JC_of (emb := (fun b : JMu => (none, b))) (L0 := [some (.ref 86), some (.int (a1)), none]) sm9_pass (Nat.le_of_ble_eq_true rfl) rfl ?_
  unfold f9_pass
  refine J_iconst dX9_pass_0 (v := (0 : Int32)) rfl ?_
  refine J_istore_n dX9_pass_1  (by decide) rfl ?_
  exact c9_pass_b2 jN _ _ _
set_option maxRecDepth 20000 in
theorem c9_nights (a1 : Int32) (μ : JMu) : ∀ b, f9_nights a1 μ = some b → JC m9_nights 8 mPl [.ref 86, .int (a1)] μ (some (.int b.1), b.2) := by
  refine JC_of (emb := (fun b : Int32 × JMu => (some (.int b.1), b.2))) (L0 := [some (.ref 86), some (.int (a1))]) sm9_nights (Nat.le_of_ble_eq_true rfl) rfl ?_
  unfold f9_nights
  refine J_iload_n dX9_nights_0 rfl ?_
  refine J_iconst dX9_nights_1 (v := (1 : Int32)) rfl ?_
  refine J_bipush dX9_nights_2 (v := (100 : Int32)) rfl ?_
  refine J_callS_i (M' := m9_within) (as := [_, _, _]) dX9_nights_4 lX9_76 sm9_within sm9_within_w (by decide) rfl (Nat.le_of_ble_eq_true rfl) (c9_within _ _ _ _) (fun r9 => ?_)
  refine J_if_ne dX9_nights_7 (tgt := 17) (by decide) (fun c10 => ?_) (fun c10 => ?_)
  · refine J_aload_n dX9_nights_10 rfl ?_
    refine J_ldc dX9_nights_11 kX9_80 ?_
    refine J_callV_w (M' := m9_finding) (as := [_]) dX9_nights_13 lX9_81 sm9_finding sm9_finding_w jo_mPl_86 hci_X9 (by decide) rfl (Nat.le_of_ble_eq_true rfl) (c9_finding _ _) (fun r16 => ?_)
    exact J_iret dX9_nights_16 rfl rfl
  · refine J_aload_n dX9_nights_17 rfl ?_
    refine J_getR dX9_nights_18 wX9_9 rfl jo_mPl_86 jr_86_0 ?_
    refine J_iconst dX9_nights_21 (v := (0 : Int32)) rfl ?_
    refine J_iald dX9_nights_22 ji_mPl_87 jl_87 (jin_spec (by decide)) (j := 0) rfl ?_
    refine J_iload_n dX9_nights_23 rfl ?_
    refine J_iadd dX9_nights_24 ?_
    refine J_sipush dX9_nights_25 (v := (9999 : Int32)) rfl ?_
    refine J_icmp_le dX9_nights_28 (tgt := 38) (by decide) (fun c11 => ?_) (fun c11 => ?_)
    · refine J_aload_n dX9_nights_38 rfl ?_
      refine J_iload_n dX9_nights_39 rfl ?_
      refine J_callV_v (M' := m9_pass) (as := [_]) dX9_nights_40 lX9_255 sm9_pass sm9_pass_w jo_mPl_86 hci_X9 (by decide) rfl (Nat.le_of_ble_eq_true rfl) (c9_pass _ _) (fun r12 => ?_)
      refine J_aload_n dX9_nights_43 rfl ?_
      refine J_callV_i (M' := m9_manyOut) (as := []) dX9_nights_44 lX9_243 sm9_manyOut sm9_manyOut_w jo_mPl_86 hci_X9 (by decide) rfl (Nat.le_of_ble_eq_true rfl) (c9_manyOut  _) (fun r13 => ?_)
      exact J_iret dX9_nights_47 rfl rfl
    · refine J_aload_n dX9_nights_31 rfl ?_
      refine J_ldc dX9_nights_32 kX9_242 ?_
      refine J_callV_w (M' := m9_finding) (as := [_]) dX9_nights_34 lX9_81 sm9_finding sm9_finding_w jo_mPl_86 hci_X9 (by decide) rfl (Nat.le_of_ble_eq_true rfl) (c9_finding _ _) (fun r14 => ?_)
      exact J_iret dX9_nights_37 rfl rfl
set_option maxRecDepth 20000 in
theorem c9_drawn (μ : JMu) : ∀ b, f9_drawn  μ = some b → JC m9_drawn 0 mPl [.ref 86] μ (some (.int b.1), b.2) := by
  refine JC_of (emb := (fun b : Int32 × JMu => (some (.int b.1), b.2))) (L0 := [some (.ref 86)]) sm9_drawn (Nat.le_of_ble_eq_true rfl) rfl ?_
  unfold f9_drawn
  refine J_aload_n dX9_drawn_0 rfl ?_
  refine J_getR dX9_drawn_1 wX9_9 rfl jo_mPl_86 jr_86_0 ?_
  refine J_iconst dX9_drawn_4 (v := (5 : Int32)) rfl ?_
  refine J_aload_n dX9_drawn_5 rfl ?_
  refine J_getR dX9_drawn_6 wX9_9 rfl jo_mPl_86 jr_86_0 ?_
  refine J_iconst dX9_drawn_9 (v := (5 : Int32)) rfl ?_
  refine J_iald dX9_drawn_10 ji_mPl_87 jl_87 (jin_spec (by decide)) (j := 5) rfl ?_
  refine J_ldcw dX9_drawn_11 kX9_258 ?_
  refine J_imul dX9_drawn_14 ?_
  refine J_sipush dX9_drawn_15 (v := (12345 : Int32)) rfl ?_
  refine J_iadd dX9_drawn_18 ?_
  refine J_iast dX9_drawn_19 ji_mPl_87 jl_87 (jin_spec (by decide)) (j := 5) rfl ?_
  refine J_aload_n dX9_drawn_20 rfl ?_
  refine J_getR dX9_drawn_21 wX9_9 rfl jo_mPl_86 jr_86_0 ?_
  refine J_iconst dX9_drawn_24 (v := (5 : Int32)) rfl ?_
  refine J_iald dX9_drawn_25 ji_mPl_87 jl_87 (jin_spec (by decide)) (j := 5) rfl ?_
  refine J_bipush dX9_drawn_26 (v := (8 : Int32)) rfl ?_
  refine J_iushr dX9_drawn_28 ?_
  exact J_iret dX9_drawn_29 rfl rfl

set_option maxRecDepth 20000 in
theorem c0_find (h : Nat) (a1 : Int32) (μ : JMu) : ∀ b, f0_find h a1 μ = some b → JC m0_find 0 cPl [.ref h, .int (a1)] μ (some (jn b), μ) := by
  refine JC_of (emb := (fun b : Option Nat => (some (jn b), μ))) (L0 := [some (.ref h), some (.int (a1))]) sm0_find (Nat.le_of_ble_eq_true rfl) rfl ?_
  unfold f0_find
  refine JF_chk (fun o_h => ?_)
  refine J_iload_n dX0_find_0 rfl ?_
  refine J_if_lt dX0_find_1 (tgt := 21) (by decide) (fun c6 => ?_) (fun c6 => ?_)
  · refine J_null dX0_find_21 ?_
    refine J_goto dX0_find_22 (tgt := 31) (by decide) ?_
    exact J_aret (v := none) dX0_find_31 rfl rfl
  · refine J_iload_n dX0_find_4 rfl ?_
    refine J_aload_n dX0_find_5 rfl ?_
    refine J_getI dX0_find_6 wX0_50 rfl o_h ?_
    refine J_icmp_ge dX0_find_9 (tgt := 21) (by decide) (fun c7 => ?_) (fun c7 => ?_)
    · refine J_null dX0_find_21 ?_
      refine J_goto dX0_find_22 (tgt := 31) (by decide) ?_
      exact J_aret (v := none) dX0_find_31 rfl rfl
    · refine J_iload_n dX0_find_12 rfl ?_
      refine J_aload_n dX0_find_13 rfl ?_
      refine J_getR dX0_find_14 wX0_17 rfl o_h rfl ?_
      refine JF_chk (fun o8 => ?_)
      refine J_alenQ dX0_find_17 o8 (fun _ => rfl) rfl rfl ?_
      refine J_icmp_lt dX0_find_18 (tgt := 25) (by decide) (fun c9 => ?_) (fun c9 => ?_)
      · refine J_aload_n dX0_find_25 rfl ?_
        refine J_getR dX0_find_26 wX0_17 rfl o_h rfl ?_
        refine J_iload_n dX0_find_29 rfl ?_
        refine JF_chk (fun c10 => ?_)
        refine J_aald dX0_find_30 o8 (fun _ => rfl) rfl (jin_spec c10) rfl ?_
        exact J_aret (v := jel (jrf h 4) a1.toNatClampNeg) dX0_find_31 rfl rfl
      · refine J_null dX0_find_21 ?_
        refine J_goto dX0_find_22 (tgt := 31) (by decide) ?_
        exact J_aret (v := none) dX0_find_31 rfl rfl
set_option maxRecDepth 20000 in
theorem c6_copyFrom (h : Nat) (a1 : Nat) (μ : JMu) : ∀ b, f6_copyFrom h a1 μ = some b → JC m6_copyFrom 0 cPl [.ref h, .ref a1] μ (none, b) := by
  refine JC_of (emb := (fun b : JMu => (none, b))) (L0 := [some (.ref h), some (.ref a1)]) sm6_copyFrom (Nat.le_of_ble_eq_true rfl) rfl ?_
  unfold f6_copyFrom
  refine JF_chk (fun o_h => ?_)
  refine JF_chk (fun o_a1 => ?_)
  refine J_aload_n dX6_copyFrom_0 rfl ?_
  refine J_aload_n dX6_copyFrom_1 rfl ?_
  refine J_getI dX6_copyFrom_2 wX6_9 rfl o_a1 ?_
  refine J_putI dX6_copyFrom_5 wX6_9 rfl o_h ?_
  refine J_aload_n dX6_copyFrom_8 rfl ?_
  refine J_aload_n dX6_copyFrom_9 rfl ?_
  refine J_getI dX6_copyFrom_10 wX6_15 rfl o_a1 ?_
  refine J_putI dX6_copyFrom_13 wX6_15 rfl o_h ?_
  refine J_aload_n dX6_copyFrom_16 rfl ?_
  refine J_aload_n dX6_copyFrom_17 rfl ?_
  refine J_getI dX6_copyFrom_18 wX6_18 rfl o_a1 ?_
  refine J_putI dX6_copyFrom_21 wX6_18 rfl o_h ?_
  refine J_aload_n dX6_copyFrom_24 rfl ?_
  refine J_aload_n dX6_copyFrom_25 rfl ?_
  refine J_getI dX6_copyFrom_26 wX6_21 rfl o_a1 ?_
  refine J_putI dX6_copyFrom_29 wX6_21 rfl o_h ?_
  refine J_aload_n dX6_copyFrom_32 rfl ?_
  refine J_aload_n dX6_copyFrom_33 rfl ?_
  refine J_getI dX6_copyFrom_34 wX6_24 rfl o_a1 ?_
  refine JF_chk (fun c2 => ?_)
  refine J_putZ dX6_copyFrom_37 wX6_24 rfl o_h c2 ?_
  exact J_vret dX6_copyFrom_40 rfl rfl
set_option maxRecDepth 20000 in
theorem c3_takeFrom (h : Nat) (a1 : Nat) (a2 : Int32) (a3 : Int32) (a4 : Int32) (μ : JMu) : ∀ b, f3_takeFrom h a1 a2 a3 a4 μ = some b → JC m3_takeFrom 1 cPl [.ref h, .ref a1, .int (a2), .int (a3), .int (a4)] μ (some (.int b.1), b.2) := by
  refine JC_of (emb := (fun b : Int32 × JMu => (some (.int b.1), b.2))) (L0 := [some (.ref h), some (.ref a1), some (.int (a2)), some (.int (a3)), some (.int (a4))]) sm3_takeFrom (Nat.le_of_ble_eq_true rfl) rfl ?_
  unfold f3_takeFrom
  refine JF_chk (fun o_h => ?_)
  refine JF_chk (fun o_a1 => ?_)
  refine J_iload dX3_takeFrom_0 rfl ?_
  refine J_if_lt dX3_takeFrom_2 (tgt := 35) (by decide) (fun c9 => ?_) (fun c9 => ?_)
  · refine J_iconst dX3_takeFrom_35 (v := (0 : Int32)) rfl ?_
    exact J_zret dX3_takeFrom_36 rfl (Or.inl rfl) rfl
  · refine J_iload_n dX3_takeFrom_5 rfl ?_
    refine J_if_lt dX3_takeFrom_6 (tgt := 35) (by decide) (fun c10 => ?_) (fun c10 => ?_)
    · refine J_iconst dX3_takeFrom_35 (v := (0 : Int32)) rfl ?_
      exact J_zret dX3_takeFrom_36 rfl (Or.inl rfl) rfl
    · refine J_iload_n dX3_takeFrom_9 rfl ?_
      refine J_if_lt dX3_takeFrom_10 (tgt := 35) (by decide) (fun c11 => ?_) (fun c11 => ?_)
      · refine J_iconst dX3_takeFrom_35 (v := (0 : Int32)) rfl ?_
        exact J_zret dX3_takeFrom_36 rfl (Or.inl rfl) rfl
      · refine J_iload dX3_takeFrom_13 rfl ?_
        refine J_aload_n dX3_takeFrom_15 rfl ?_
        refine J_getI dX3_takeFrom_16 wX3_19 rfl o_a1 ?_
        refine J_iload_n dX3_takeFrom_19 rfl ?_
        refine J_isub dX3_takeFrom_20 ?_
        refine J_icmp_gt dX3_takeFrom_21 (tgt := 35) (by decide) (fun c12 => ?_) (fun c12 => ?_)
        · refine J_iconst dX3_takeFrom_35 (v := (0 : Int32)) rfl ?_
          exact J_zret dX3_takeFrom_36 rfl (Or.inl rfl) rfl
        · refine J_iload dX3_takeFrom_24 rfl ?_
          refine J_aload_n dX3_takeFrom_26 rfl ?_
          refine J_getI dX3_takeFrom_27 wX3_19 rfl o_h ?_
          refine J_iload_n dX3_takeFrom_30 rfl ?_
          refine J_isub dX3_takeFrom_31 ?_
          refine J_icmp_le dX3_takeFrom_32 (tgt := 37) (by decide) (fun c13 => ?_) (fun c13 => ?_)
          · refine J_aload_n dX3_takeFrom_37 rfl ?_
            refine J_getR dX3_takeFrom_38 wX3_13 rfl o_a1 rfl ?_
            refine J_iload_n dX3_takeFrom_41 rfl ?_
            refine J_aload_n dX3_takeFrom_42 rfl ?_
            refine J_getR dX3_takeFrom_43 wX3_13 rfl o_h rfl ?_
            refine J_iload_n dX3_takeFrom_46 rfl ?_
            refine J_iload dX3_takeFrom_47 rfl ?_
            refine JF_chk (fun o14 => ?_)
            refine JF_chk (fun o15 => ?_)
            refine JF_chk (fun c16 => ?_)
            refine J_copy dX3_takeFrom_49 lX3_34 wac_n wac_s wac_i o14 o15 c16.1 c16.2.1 c16.2.2.1 c16.2.2.2.1 c16.2.2.2.2 (by decide) (Nat.le_of_ble_eq_true rfl) ?_
            refine J_iconst dX3_takeFrom_52 (v := (1 : Int32)) rfl ?_
            exact J_zret dX3_takeFrom_53 rfl (Or.inr rfl) rfl
          · refine J_iconst dX3_takeFrom_35 (v := (0 : Int32)) rfl ?_
            exact J_zret dX3_takeFrom_36 rfl (Or.inl rfl) rfl
set_option maxRecDepth 20000 in
theorem c3_copyFrom (h : Nat) (a1 : Nat) (μ : JMu) : ∀ b, f3_copyFrom h a1 μ = some b → JC m3_copyFrom 2 cPl [.ref h, .ref a1] μ (none, b) := by
  refine JC_of (emb := (fun b : JMu => (none, b))) (L0 := [some (.ref h), some (.ref a1)]) sm3_copyFrom (Nat.le_of_ble_eq_true rfl) rfl ?_
  unfold f3_copyFrom
  refine JF_chk (fun o_h => ?_)
  refine JF_chk (fun o_a1 => ?_)
  refine J_aload_n dX3_copyFrom_0 rfl ?_
  refine J_iconst dX3_copyFrom_1 (v := (0 : Int32)) rfl ?_
  refine J_aload_n dX3_copyFrom_2 rfl ?_
  refine J_getI dX3_copyFrom_3 wX3_19 rfl o_a1 ?_
  refine J_aload_n dX3_copyFrom_6 rfl ?_
  refine J_getR dX3_copyFrom_7 wX3_13 rfl o_h rfl ?_
  refine JF_chk (fun o3 => ?_)
  refine J_alen dX3_copyFrom_10 o3 rfl rfl ?_
  refine J_min dX3_copyFrom_11 lX3_27 wm_min_s wm_i wm_min_c (by decide) (Nat.le_of_ble_eq_true rfl) ?_
  refine J_max dX3_copyFrom_14 lX3_7 wm_max_s wm_i wm_max_c (by decide) (Nat.le_of_ble_eq_true rfl) ?_
  refine J_putI dX3_copyFrom_17 wX3_19 rfl o_h ?_
  refine J_aload_n dX3_copyFrom_20 rfl ?_
  refine J_aload_n dX3_copyFrom_21 rfl ?_
  refine J_iconst dX3_copyFrom_22 (v := (0 : Int32)) rfl ?_
  refine J_iconst dX3_copyFrom_23 (v := (0 : Int32)) rfl ?_
  refine J_aload_n dX3_copyFrom_24 rfl ?_
  refine J_getI dX3_copyFrom_25 wX3_19 rfl o_h ?_
  refine J_callV_w (M' := m3_takeFrom) (as := [_, _, _, _]) dX3_copyFrom_28 lX3_30 sm3_takeFrom sm3_takeFrom_w o_h hci_X3 (by decide) rfl (Nat.le_of_ble_eq_true rfl) (c3_takeFrom _ _ _ _ _ _) (fun r4 => ?_)
  refine J_pop dX3_copyFrom_31 rfl ?_
  exact J_vret dX3_copyFrom_32 rfl rfl
set_option maxRecDepth 20000 in
theorem c1_copyFrom (h : Nat) (a1 : Nat) (μ : JMu) : ∀ b, f1_copyFrom h a1 μ = some b → JC m1_copyFrom 3 cPl [.ref h, .ref a1] μ (none, b) := by
  refine JC_of (emb := (fun b : JMu => (none, b))) (L0 := [some (.ref h), some (.ref a1)]) sm1_copyFrom (Nat.le_of_ble_eq_true rfl) rfl ?_
  unfold f1_copyFrom
  refine JF_chk (fun o_h => ?_)
  refine JF_chk (fun o_a1 => ?_)
  refine J_aload_n dX1_copyFrom_0 rfl ?_
  refine J_getR dX1_copyFrom_1 wX1_14 rfl o_h rfl ?_
  refine J_aload_n dX1_copyFrom_4 rfl ?_
  refine JF_chk (fun o3 => ?_)
  refine J_callV_v (M' := m3_copyFrom) (as := [_]) dX1_copyFrom_5 lX1_28 sm3_copyFrom sm3_copyFrom_w o3 hci_X3 (by decide) rfl (Nat.le_of_ble_eq_true rfl) (c3_copyFrom _ _ _) (fun r4 => ?_)
  exact J_vret dX1_copyFrom_8 rfl rfl
set_option maxRecDepth 20000 in
theorem c0_copyFrom_b34 (h : Nat) (a1 : Nat) (o_h : jO cPl h 0 = true) (o_a1 : jO cPl a1 0 = true) (n : Nat) : ∀ (v2 : Int32) (μ : JMu), JF m0_copyFrom 4 cPl (fun b : JMu => (none, b)) 34 [some (.ref h), some (.ref a1), some (.int (v2)), none, none] [] μ (f0_copyFrom_b34 h a1 n v2 μ) := by
  induction n with
  | zero => intros; exact JF_none
  | succ n ih =>
    intro v2 μ
    rw [f0_copyFrom_b34]
    refine J_iload_n dX0_copyFrom_34 rfl ?_
    refine J_aload_n dX0_copyFrom_35 rfl ?_
    refine J_getI dX0_copyFrom_36 wX0_50 rfl o_h ?_
    refine J_icmp_ge dX0_copyFrom_39 (tgt := 76) (by decide) (fun c18 => ?_) (fun c18 => ?_)
    · refine J_aload_n dX0_copyFrom_76 rfl ?_
      refine J_getR dX0_copyFrom_77 wX0_26 rfl o_h rfl ?_
      refine J_aload_n dX0_copyFrom_80 rfl ?_
      refine J_getR dX0_copyFrom_81 wX0_26 rfl o_a1 rfl ?_
      refine JF_chk (fun o19 => ?_)
      refine J_callV_v (M' := m3_copyFrom) (as := [_]) dX0_copyFrom_84 lX0_61 sm3_copyFrom sm3_copyFrom_w o19 hci_X3 (by decide) rfl (Nat.le_of_ble_eq_true rfl) (c3_copyFrom _ _ _) (fun r20 => ?_)
      refine J_aload_n dX0_copyFrom_87 rfl ?_
      refine J_getR dX0_copyFrom_88 wX0_30 rfl o_h rfl ?_
      refine J_aload_n dX0_copyFrom_91 rfl ?_
      refine J_getR dX0_copyFrom_92 wX0_30 rfl o_a1 rfl ?_
      refine JF_chk (fun o21 => ?_)
      refine J_callV_v (M' := m3_copyFrom) (as := [_]) dX0_copyFrom_95 lX0_61 sm3_copyFrom sm3_copyFrom_w o21 hci_X3 (by decide) rfl (Nat.le_of_ble_eq_true rfl) (c3_copyFrom _ _ _) (fun r22 => ?_)
      refine J_aload_n dX0_copyFrom_98 rfl ?_
      refine J_getR dX0_copyFrom_99 wX0_36 rfl o_h rfl ?_
      refine J_aload_n dX0_copyFrom_102 rfl ?_
      refine J_getR dX0_copyFrom_103 wX0_36 rfl o_a1 rfl ?_
      refine JF_chk (fun o23 => ?_)
      refine J_getR dX0_copyFrom_106 wX0_64 rfl o23 rfl ?_
      refine JF_chk (fun o24 => ?_)
      refine J_callV_v (M' := m1_copyFrom) (as := [_]) dX0_copyFrom_109 lX0_67 sm1_copyFrom sm1_copyFrom_w o24 hci_X1 (by decide) rfl (Nat.le_of_ble_eq_true rfl) (c1_copyFrom _ _ _) (fun r25 => ?_)
      refine J_aload_n dX0_copyFrom_112 rfl ?_
      refine J_getR dX0_copyFrom_113 wX0_40 rfl o_h rfl ?_
      refine J_aload_n dX0_copyFrom_116 rfl ?_
      refine J_getR dX0_copyFrom_117 wX0_40 rfl o_a1 rfl ?_
      refine JF_chk (fun o26 => ?_)
      refine J_getR dX0_copyFrom_120 wX0_64 rfl o26 rfl ?_
      refine JF_chk (fun o27 => ?_)
      refine J_callV_v (M' := m1_copyFrom) (as := [_]) dX0_copyFrom_123 lX0_67 sm1_copyFrom sm1_copyFrom_w o27 hci_X1 (by decide) rfl (Nat.le_of_ble_eq_true rfl) (c1_copyFrom _ _ _) (fun r28 => ?_)
      exact J_vret dX0_copyFrom_126 rfl rfl
    · refine J_aload_n dX0_copyFrom_42 rfl ?_
      refine J_iload_n dX0_copyFrom_43 rfl ?_
      refine J_callV_q (M' := m0_find) (as := [_]) dX0_copyFrom_44 lX0_53 sm0_find sm0_find_w o_h hci_X0 (by decide) rfl (Nat.le_of_ble_eq_true rfl) (c0_find _ _ _) (fun r29 => ?_)
      refine J_astore_nQ dX0_copyFrom_47 (x := r29) (by decide) rfl ?_
      refine J_aload_n dX0_copyFrom_48 rfl ?_
      refine J_iload_n dX0_copyFrom_49 rfl ?_
      refine J_callV_q (M' := m0_find) (as := [_]) dX0_copyFrom_50 lX0_53 sm0_find sm0_find_w o_a1 hci_X0 (by decide) rfl (Nat.le_of_ble_eq_true rfl) (c0_find _ _ _) (fun r30 => ?_)
      refine J_astoreQ dX0_copyFrom_53 (x := r30) (by decide) (jok_q (x := r29) rfl) ?_
      refine J_aload_nQ dX0_copyFrom_55 (x := r29) rfl ?_
      rcases r29 with _ | p31
      · refine J_ifnull0 dX0_copyFrom_56 (tgt := 70) (by decide) ?_
        refine J_iinc dX0_copyFrom_70 rfl (c0 := (1 : Int32)) rfl (by decide) rfl ?_
        refine J_goto dX0_copyFrom_73 (tgt := 34) (by decide) ?_
        refine JF_drop [3, 4] ?_
        exact ih _ _
      · refine J_ifnull1 dX0_copyFrom_56 ?_
        refine J_aloadQ dX0_copyFrom_59 (x := r30) rfl ?_
        rcases r30 with _ | p32
        · refine J_ifnull0 dX0_copyFrom_61 (tgt := 70) (by decide) ?_
          refine J_iinc dX0_copyFrom_70 rfl (c0 := (1 : Int32)) rfl (by decide) rfl ?_
          refine J_goto dX0_copyFrom_73 (tgt := 34) (by decide) ?_
          refine JF_drop [3, 4] ?_
          exact ih _ _
        · refine J_ifnull1 dX0_copyFrom_61 ?_
          refine J_aload_n dX0_copyFrom_64 rfl ?_
          refine J_aload dX0_copyFrom_65 rfl ?_
          refine JF_chk (fun o33 => ?_)
          refine J_callV_v (M' := m6_copyFrom) (as := [_]) dX0_copyFrom_67 lX0_57 sm6_copyFrom sm6_copyFrom_w o33 hci_X6 (by decide) rfl (Nat.le_of_ble_eq_true rfl) (c6_copyFrom _ _ _) (fun r34 => ?_)
          refine J_iinc dX0_copyFrom_70 rfl (c0 := (1 : Int32)) rfl (by decide) rfl ?_
          refine J_goto dX0_copyFrom_73 (tgt := 34) (by decide) ?_
          refine JF_drop [3, 4] ?_
          exact ih _ _
set_option maxRecDepth 20000 in
theorem c0_copyFrom (h : Nat) (a1 : Nat) (μ : JMu) : ∀ b, f0_copyFrom h a1 μ = some b → JC m0_copyFrom 4 cPl [.ref h, .ref a1] μ (none, b) := by
  refine JC_of (emb := (fun b : JMu => (none, b))) (L0 := [some (.ref h), some (.ref a1), none, none, none]) sm0_copyFrom (Nat.le_of_ble_eq_true rfl) rfl ?_
  unfold f0_copyFrom
  refine JF_chk (fun o_h => ?_)
  refine JF_chk (fun o_a1 => ?_)
  refine J_aload_n dX0_copyFrom_0 rfl ?_
  refine J_aload_n dX0_copyFrom_1 rfl ?_
  refine J_getI dX0_copyFrom_2 wX0_44 rfl o_a1 ?_
  refine J_putI dX0_copyFrom_5 wX0_44 rfl o_h ?_
  refine J_aload_n dX0_copyFrom_8 rfl ?_
  refine J_aload_n dX0_copyFrom_9 rfl ?_
  refine J_getI dX0_copyFrom_10 wX0_47 rfl o_a1 ?_
  refine J_putI dX0_copyFrom_13 wX0_47 rfl o_h ?_
  refine J_aload_n dX0_copyFrom_16 rfl ?_
  refine J_aload_n dX0_copyFrom_17 rfl ?_
  refine J_getI dX0_copyFrom_18 wX0_9 rfl o_a1 ?_
  refine J_putI dX0_copyFrom_21 wX0_9 rfl o_h ?_
  refine J_aload_n dX0_copyFrom_24 rfl ?_
  refine J_aload_n dX0_copyFrom_25 rfl ?_
  refine J_getI dX0_copyFrom_26 wX0_50 rfl o_a1 ?_
  refine J_putI dX0_copyFrom_29 wX0_50 rfl o_h ?_
  refine J_iconst dX0_copyFrom_32 (v := (0 : Int32)) rfl ?_
  refine J_istore_n dX0_copyFrom_33  (by decide) rfl ?_
  exact c0_copyFrom_b34 h a1 o_h o_a1 jN _ _
set_option maxRecDepth 20000 in
theorem c0_takeIn_b32 (h : Nat) (o_h : jO cPl h 0 = true) (v1 : Int32) (v2 : Int32) (s0 : Option Nat) (μ : JMu) : JF m0_takeIn 0 cPl (fun b : Int32 × JMu => (some (.int b.1), b.2)) 32 [some (.ref h), some (.int (v1)), some (.int (v2)), none] [jn s0] μ (f0_takeIn_b32 h v1 v2 s0 μ) := by
  unfold f0_takeIn_b32
  refine J_astore_nQ dX0_takeIn_32 (x := s0) (by decide) rfl ?_
  refine J_aload_nQ dX0_takeIn_33 (x := s0) rfl ?_
  rcases s0 with _ | p7
  · refine J_ifnonnull0 dX0_takeIn_34 ?_
    refine J_iconst dX0_takeIn_37 (v := (-1 : Int32)) rfl ?_
    exact J_iret dX0_takeIn_38 rfl rfl
  · refine J_ifnonnull1 dX0_takeIn_34 (tgt := 39) (by decide) ?_
    refine J_aload_n dX0_takeIn_39 rfl ?_
    refine J_iload_n dX0_takeIn_40 rfl ?_
    refine JF_chk (fun o8 => ?_)
    refine J_putI dX0_takeIn_41 wX0_68 rfl o8 ?_
    refine J_aload_n dX0_takeIn_44 rfl ?_
    refine J_iload_n dX0_takeIn_45 rfl ?_
    refine J_putI dX0_takeIn_46 wX0_71 rfl o8 ?_
    refine J_aload_n dX0_takeIn_49 rfl ?_
    refine J_iconst dX0_takeIn_50 (v := (0 : Int32)) rfl ?_
    refine J_putI dX0_takeIn_51 wX0_74 rfl o8 ?_
    refine J_aload_n dX0_takeIn_54 rfl ?_
    refine J_iconst dX0_takeIn_55 (v := (0 : Int32)) rfl ?_
    refine J_putI dX0_takeIn_56 wX0_77 rfl o8 ?_
    refine J_aload_n dX0_takeIn_59 rfl ?_
    refine J_iconst dX0_takeIn_60 (v := (0 : Int32)) rfl ?_
    refine J_putZ dX0_takeIn_61 wX0_80 rfl o8 (Or.inl rfl) ?_
    refine J_aload_n dX0_takeIn_64 rfl ?_
    refine J_dup dX0_takeIn_65 rfl ?_
    refine J_getI dX0_takeIn_66 wX0_50 rfl o_h ?_
    refine J_iconst dX0_takeIn_69 (v := (1 : Int32)) rfl ?_
    refine J_iadd dX0_takeIn_70 ?_
    refine J_putI dX0_takeIn_71 wX0_50 rfl o_h ?_
    refine J_aload_n dX0_takeIn_74 rfl ?_
    refine J_getI dX0_takeIn_75 wX0_50 rfl o_h ?_
    refine J_iconst dX0_takeIn_78 (v := (1 : Int32)) rfl ?_
    refine J_isub dX0_takeIn_79 ?_
    exact J_iret dX0_takeIn_80 rfl rfl
set_option maxRecDepth 20000 in
theorem c0_takeIn_b19 (h : Nat) (o_h : jO cPl h 0 = true) (v1 : Int32) (v2 : Int32) (μ : JMu) : JF m0_takeIn 0 cPl (fun b : Int32 × JMu => (some (.int b.1), b.2)) 19 [some (.ref h), some (.int (v1)), some (.int (v2)), none] [] μ (f0_takeIn_b19 h v1 v2 μ) := by
  unfold f0_takeIn_b19
  refine J_null dX0_takeIn_19 ?_
  refine J_goto dX0_takeIn_20 (tgt := 32) (by decide) ?_
  exact c0_takeIn_b32 h o_h _ _ none _
set_option maxRecDepth 20000 in
theorem c0_takeIn (h : Nat) (a1 : Int32) (a2 : Int32) (μ : JMu) : ∀ b, f0_takeIn h a1 a2 μ = some b → JC m0_takeIn 0 cPl [.ref h, .int (a1), .int (a2)] μ (some (.int b.1), b.2) := by
  refine JC_of (emb := (fun b : Int32 × JMu => (some (.int b.1), b.2))) (L0 := [some (.ref h), some (.int (a1)), some (.int (a2)), none]) sm0_takeIn (Nat.le_of_ble_eq_true rfl) rfl ?_
  unfold f0_takeIn
  refine JF_chk (fun o_h => ?_)
  refine J_aload_n dX0_takeIn_0 rfl ?_
  refine J_getI dX0_takeIn_1 wX0_50 rfl o_h ?_
  refine J_if_lt dX0_takeIn_4 (tgt := 19) (by decide) (fun c9 => ?_) (fun c9 => ?_)
  · exact c0_takeIn_b19 h o_h _ _ _
  · refine J_aload_n dX0_takeIn_7 rfl ?_
    refine J_getI dX0_takeIn_8 wX0_50 rfl o_h ?_
    refine J_aload_n dX0_takeIn_11 rfl ?_
    refine J_getR dX0_takeIn_12 wX0_17 rfl o_h rfl ?_
    refine JF_chk (fun o10 => ?_)
    refine J_alenQ dX0_takeIn_15 o10 (fun _ => rfl) rfl rfl ?_
    refine J_icmp_lt dX0_takeIn_16 (tgt := 23) (by decide) (fun c11 => ?_) (fun c11 => ?_)
    · refine J_aload_n dX0_takeIn_23 rfl ?_
      refine J_getR dX0_takeIn_24 wX0_17 rfl o_h rfl ?_
      refine J_aload_n dX0_takeIn_27 rfl ?_
      refine J_getI dX0_takeIn_28 wX0_50 rfl o_h ?_
      refine JF_chk (fun c12 => ?_)
      refine J_aald dX0_takeIn_31 o10 (fun _ => rfl) rfl (jin_spec c12) rfl ?_
      exact c0_takeIn_b32 h o_h _ _ _ _
    · exact c0_takeIn_b19 h o_h _ _ _
set_option maxRecDepth 20000 in
theorem c0_lawOf (h : Nat) (a1 : Int32) (μ : JMu) : ∀ b, f0_lawOf h a1 μ = some b → JC m0_lawOf 0 cPl [.ref h, .int (a1)] μ (some (.ref b), μ) := by
  refine JC_of (emb := (fun b : Nat => (some (.ref b), μ))) (L0 := [some (.ref h), some (.int (a1))]) sm0_lawOf (Nat.le_of_ble_eq_true rfl) rfl ?_
  unfold f0_lawOf
  refine JF_chk (fun o_h => ?_)
  refine J_iload_n dX0_lawOf_0 rfl ?_
  refine J_if_ne dX0_lawOf_1 (tgt := 11) (by decide) (fun c2 => ?_) (fun c2 => ?_)
  · refine J_aload_n dX0_lawOf_4 rfl ?_
    refine J_getR dX0_lawOf_5 wX0_36 rfl o_h rfl ?_
    refine J_goto dX0_lawOf_8 (tgt := 15) (by decide) ?_
    exact J_aret (v := some (jrf h 7)) dX0_lawOf_15 rfl rfl
  · refine J_aload_n dX0_lawOf_11 rfl ?_
    refine J_getR dX0_lawOf_12 wX0_40 rfl o_h rfl ?_
    exact J_aret (v := some (jrf h 8)) dX0_lawOf_15 rfl rfl
set_option maxRecDepth 20000 in
theorem c3_get (h : Nat) (a1 : Int32) (μ : JMu) : ∀ b, f3_get h a1 μ = some b → JC m3_get 0 cPl [.ref h, .int (a1)] μ (some (.int b), μ) := by
  refine JC_of (emb := (fun b : Int32 => (some (.int b), μ))) (L0 := [some (.ref h), some (.int (a1))]) sm3_get (Nat.le_of_ble_eq_true rfl) rfl ?_
  unfold f3_get
  refine JF_chk (fun o_h => ?_)
  refine J_iload_n dX3_get_0 rfl ?_
  refine J_if_lt dX3_get_1 (tgt := 30) (by decide) (fun c6 => ?_) (fun c6 => ?_)
  · refine J_iconst dX3_get_30 (v := (0 : Int32)) rfl ?_
    exact J_iret dX3_get_31 rfl rfl
  · refine J_iload_n dX3_get_4 rfl ?_
    refine J_aload_n dX3_get_5 rfl ?_
    refine J_getI dX3_get_6 wX3_19 rfl o_h ?_
    refine J_icmp_ge dX3_get_9 (tgt := 30) (by decide) (fun c7 => ?_) (fun c7 => ?_)
    · refine J_iconst dX3_get_30 (v := (0 : Int32)) rfl ?_
      exact J_iret dX3_get_31 rfl rfl
    · refine J_iload_n dX3_get_12 rfl ?_
      refine J_aload_n dX3_get_13 rfl ?_
      refine J_getR dX3_get_14 wX3_13 rfl o_h rfl ?_
      refine JF_chk (fun o8 => ?_)
      refine J_alen dX3_get_17 o8 rfl rfl ?_
      refine J_icmp_ge dX3_get_18 (tgt := 30) (by decide) (fun c9 => ?_) (fun c9 => ?_)
      · refine J_iconst dX3_get_30 (v := (0 : Int32)) rfl ?_
        exact J_iret dX3_get_31 rfl rfl
      · refine J_aload_n dX3_get_21 rfl ?_
        refine J_getR dX3_get_22 wX3_13 rfl o_h rfl ?_
        refine J_iload_n dX3_get_25 rfl ?_
        refine JF_chk (fun c10 => ?_)
        refine J_iald dX3_get_26 o8 rfl (jin_spec c10) rfl ?_
        refine J_goto dX3_get_27 (tgt := 31) (by decide) ?_
        exact J_iret dX3_get_31 rfl rfl
set_option maxRecDepth 20000 in
theorem c1_valueOf (a1 : Int32) (a2 : Int32) (a3 : Int32) (a4 : Int32) (μ : JMu) : ∀ b, f1_valueOf a1 a2 a3 a4 = some b → JC m1_valueOf 0 cPl [.int (a1), .int (a2), .int (a3), .int (a4)] μ (some (.int b), μ) := by
  refine JC_of (emb := (fun b : Int32 => (some (.int b), μ))) (L0 := [some (.int (a1)), some (.int (a2)), some (.int (a3)), some (.int (a4))]) sm1_valueOf (Nat.le_of_ble_eq_true rfl) rfl ?_
  unfold f1_valueOf
  refine J_iload_n dX1_valueOf_0 rfl ?_
  refine J_if_lt dX1_valueOf_1 (tgt := 6) (by decide) (fun c4 => ?_) (fun c4 => ?_)
  · refine J_iload_n dX1_valueOf_6 rfl ?_
    refine J_iconst dX1_valueOf_7 (v := (-1 : Int32)) rfl ?_
    refine J_icmp_ne dX1_valueOf_8 (tgt := 13) (by decide) (fun c5 => ?_) (fun c5 => ?_)
    · refine J_iload_n dX1_valueOf_11 rfl ?_
      exact J_iret dX1_valueOf_12 rfl rfl
    · refine J_iload_n dX1_valueOf_13 rfl ?_
      refine J_bipush dX1_valueOf_14 (v := (-3 : Int32)) rfl ?_
      refine J_icmp_ne dX1_valueOf_16 (tgt := 23) (by decide) (fun c6 => ?_) (fun c6 => ?_)
      · refine J_iload_n dX1_valueOf_19 rfl ?_
        refine J_goto dX1_valueOf_20 (tgt := 24) (by decide) ?_
        exact J_iret dX1_valueOf_24 rfl rfl
      · refine J_iload_n dX1_valueOf_23 rfl ?_
        exact J_iret dX1_valueOf_24 rfl rfl
  · refine J_iload_n dX1_valueOf_4 rfl ?_
    exact J_iret dX1_valueOf_5 rfl rfl
set_option maxRecDepth 20000 in
theorem c1_asInt (a1 : Int32) (μ : JMu) : ∀ b, f1_asInt a1 = some b → JC m1_asInt 0 cPl [.int (a1)] μ (some (.int b), μ) := by
  refine JC_of (emb := (fun b : Int32 => (some (.int b), μ))) (L0 := [some (.int (a1))]) sm1_asInt (Nat.le_of_ble_eq_true rfl) rfl ?_
  unfold f1_asInt
  refine J_iload_n dX1_asInt_0 rfl ?_
  refine J_if_eq dX1_asInt_1 (tgt := 8) (by decide) (fun c2 => ?_) (fun c2 => ?_)
  · refine J_iconst dX1_asInt_8 (v := (0 : Int32)) rfl ?_
    exact J_iret dX1_asInt_9 rfl rfl
  · refine J_iconst dX1_asInt_4 (v := (1 : Int32)) rfl ?_
    refine J_goto dX1_asInt_5 (tgt := 9) (by decide) ?_
    exact J_iret dX1_asInt_9 rfl rfl
set_option maxRecDepth 20000 in
theorem c1_join (a1 : Int32) (a2 : Int32) (a3 : Int32) (μ : JMu) : ∀ b, f1_join a1 a2 a3 = some b → JC m1_join 0 cPl [.int (a1), .int (a2), .int (a3)] μ (some (.int b), μ) := by
  refine JC_of (emb := (fun b : Int32 => (some (.int b), μ))) (L0 := [some (.int (a1)), some (.int (a2)), some (.int (a3))]) sm1_join (Nat.le_of_ble_eq_true rfl) rfl ?_
  unfold f1_join
  refine J_iload_n dX1_join_0 rfl ?_
  refine JF_ite (fun c22 => ?_) (fun c22 => ?_)
  · refine J_look dX1_join_1 (off := 176) (tgt := 177) (by decide) (by rw [c22]; decide) (by decide) ?_
    refine J_iload_n dX1_join_177 rfl ?_
    refine J_if_ne dX1_join_178 (tgt := 185) (by decide) (fun c23 => ?_) (fun c23 => ?_)
    · refine J_iconst dX1_join_181 (v := (0 : Int32)) rfl ?_
      refine J_goto dX1_join_182 (tgt := 188) (by decide) ?_
      exact J_iret dX1_join_188 rfl rfl
    · refine J_iload_n dX1_join_185 rfl ?_
      refine J_iload_n dX1_join_186 rfl ?_
      refine JF_chk (fun c24 => ?_)
      refine J_irem dX1_join_187 c24 ?_
      exact J_iret dX1_join_188 rfl rfl
  · refine JF_ite (fun c25 => ?_) (fun c25 => ?_)
    · refine J_look dX1_join_1 (off := 105) (tgt := 106) (by decide) (by rw [c25]; decide) (by decide) ?_
      refine J_iload_n dX1_join_106 rfl ?_
      refine J_if_eq dX1_join_107 (tgt := 118) (by decide) (fun c26 => ?_) (fun c26 => ?_)
      · refine J_iconst dX1_join_118 (v := (0 : Int32)) rfl ?_
        exact J_iret dX1_join_119 rfl rfl
      · refine J_iload_n dX1_join_110 rfl ?_
        refine J_if_eq dX1_join_111 (tgt := 118) (by decide) (fun c27 => ?_) (fun c27 => ?_)
        · refine J_iconst dX1_join_118 (v := (0 : Int32)) rfl ?_
          exact J_iret dX1_join_119 rfl rfl
        · refine J_iconst dX1_join_114 (v := (1 : Int32)) rfl ?_
          refine J_goto dX1_join_115 (tgt := 119) (by decide) ?_
          exact J_iret dX1_join_119 rfl rfl
    · refine JF_ite (fun c28 => ?_) (fun c28 => ?_)
      · refine J_look dX1_join_1 (off := 160) (tgt := 161) (by decide) (by rw [c28]; decide) (by decide) ?_
        refine J_iload_n dX1_join_161 rfl ?_
        refine J_iload_n dX1_join_162 rfl ?_
        refine J_imul dX1_join_163 ?_
        exact J_iret dX1_join_164 rfl rfl
      · refine JF_ite (fun c29 => ?_) (fun c29 => ?_)
        · refine J_look dX1_join_1 (off := 152) (tgt := 153) (by decide) (by rw [c29]; decide) (by decide) ?_
          refine J_iload_n dX1_join_153 rfl ?_
          refine J_iload_n dX1_join_154 rfl ?_
          refine J_iadd dX1_join_155 ?_
          exact J_iret dX1_join_156 rfl rfl
        · refine JF_ite (fun c30 => ?_) (fun c30 => ?_)
          · refine J_look dX1_join_1 (off := 156) (tgt := 157) (by decide) (by rw [c30]; decide) (by decide) ?_
            refine J_iload_n dX1_join_157 rfl ?_
            refine J_iload_n dX1_join_158 rfl ?_
            refine J_isub dX1_join_159 ?_
            exact J_iret dX1_join_160 rfl rfl
          · refine JF_ite (fun c31 => ?_) (fun c31 => ?_)
            · refine J_look dX1_join_1 (off := 164) (tgt := 165) (by decide) (by rw [c31]; decide) (by decide) ?_
              refine J_iload_n dX1_join_165 rfl ?_
              refine J_if_ne dX1_join_166 (tgt := 173) (by decide) (fun c32 => ?_) (fun c32 => ?_)
              · refine J_iconst dX1_join_169 (v := (0 : Int32)) rfl ?_
                refine J_goto dX1_join_170 (tgt := 176) (by decide) ?_
                exact J_iret dX1_join_176 rfl rfl
              · refine J_iload_n dX1_join_173 rfl ?_
                refine J_iload_n dX1_join_174 rfl ?_
                refine JF_chk (fun c33 => ?_)
                refine J_idiv dX1_join_175 c33 ?_
                exact J_iret dX1_join_176 rfl rfl
            · refine JF_ite (fun c34 => ?_) (fun c34 => ?_)
              · refine J_look dX1_join_1 (off := 119) (tgt := 120) (by decide) (by rw [c34]; decide) (by decide) ?_
                refine J_iload_n dX1_join_120 rfl ?_
                refine J_iload_n dX1_join_121 rfl ?_
                refine J_icmp_ge dX1_join_122 (tgt := 129) (by decide) (fun c35 => ?_) (fun c35 => ?_)
                · refine J_iconst dX1_join_129 (v := (0 : Int32)) rfl ?_
                  exact J_iret dX1_join_130 rfl rfl
                · refine J_iconst dX1_join_125 (v := (1 : Int32)) rfl ?_
                  refine J_goto dX1_join_126 (tgt := 130) (by decide) ?_
                  exact J_iret dX1_join_130 rfl rfl
              · refine JF_ite (fun c36 => ?_) (fun c36 => ?_)
                · refine J_look dX1_join_1 (off := 130) (tgt := 131) (by decide) (by rw [c36]; decide) (by decide) ?_
                  refine J_iload_n dX1_join_131 rfl ?_
                  refine J_iload_n dX1_join_132 rfl ?_
                  refine J_icmp_ne dX1_join_133 (tgt := 140) (by decide) (fun c37 => ?_) (fun c37 => ?_)
                  · refine J_iconst dX1_join_136 (v := (1 : Int32)) rfl ?_
                    refine J_goto dX1_join_137 (tgt := 141) (by decide) ?_
                    exact J_iret dX1_join_141 rfl rfl
                  · refine J_iconst dX1_join_140 (v := (0 : Int32)) rfl ?_
                    exact J_iret dX1_join_141 rfl rfl
                · refine JF_ite (fun c38 => ?_) (fun c38 => ?_)
                  · refine J_look dX1_join_1 (off := 141) (tgt := 142) (by decide) (by rw [c38]; decide) (by decide) ?_
                    refine J_iload_n dX1_join_142 rfl ?_
                    refine J_iload_n dX1_join_143 rfl ?_
                    refine J_icmp_le dX1_join_144 (tgt := 151) (by decide) (fun c39 => ?_) (fun c39 => ?_)
                    · refine J_iconst dX1_join_151 (v := (0 : Int32)) rfl ?_
                      exact J_iret dX1_join_152 rfl rfl
                    · refine J_iconst dX1_join_147 (v := (1 : Int32)) rfl ?_
                      refine J_goto dX1_join_148 (tgt := 152) (by decide) ?_
                      exact J_iret dX1_join_152 rfl rfl
                  · refine JF_ite (fun c40 => ?_) (fun c40 => ?_)
                    · refine J_look dX1_join_1 (off := 91) (tgt := 92) (by decide) (by rw [c40]; decide) (by decide) ?_
                      refine J_iload_n dX1_join_92 rfl ?_
                      refine J_if_ne dX1_join_93 (tgt := 100) (by decide) (fun c41 => ?_) (fun c41 => ?_)
                      · refine J_iload_n dX1_join_96 rfl ?_
                        refine J_if_eq dX1_join_97 (tgt := 104) (by decide) (fun c42 => ?_) (fun c42 => ?_)
                        · refine J_iconst dX1_join_104 (v := (0 : Int32)) rfl ?_
                          exact J_iret dX1_join_105 rfl rfl
                        · refine J_iconst dX1_join_100 (v := (1 : Int32)) rfl ?_
                          refine J_goto dX1_join_101 (tgt := 105) (by decide) ?_
                          exact J_iret dX1_join_105 rfl rfl
                      · refine J_iconst dX1_join_100 (v := (1 : Int32)) rfl ?_
                        refine J_goto dX1_join_101 (tgt := 105) (by decide) ?_
                        exact J_iret dX1_join_105 rfl rfl
                    · refine J_look dX1_join_1 (off := 188) (tgt := 189) (by decide) (by show Op.lookupswitch.offset [(37, 176), (38, 105), (42, 160), (43, 152), (45, 156), (47, 164), (60, 119), (61, 130), (62, 141), (124, 91)] _ _ = _; rw [lv_osw c22 (k := (37 : Int32)) (a := 37) rfl, lv_osw c25 (k := (38 : Int32)) (a := 38) rfl, lv_osw c28 (k := (42 : Int32)) (a := 42) rfl, lv_osw c29 (k := (43 : Int32)) (a := 43) rfl, lv_osw c30 (k := (45 : Int32)) (a := 45) rfl, lv_osw c31 (k := (47 : Int32)) (a := 47) rfl, lv_osw c34 (k := (60 : Int32)) (a := 60) rfl, lv_osw c36 (k := (61 : Int32)) (a := 61) rfl, lv_osw c38 (k := (62 : Int32)) (a := 62) rfl, lv_osw c40 (k := (124 : Int32)) (a := 124) rfl]; rfl) (by decide) ?_
                      refine J_iconst dX1_join_189 (v := (0 : Int32)) rfl ?_
                      exact J_iret dX1_join_190 rfl rfl
set_option maxRecDepth 20000 in
theorem c1_workOut_b109 (h : Nat) (o_h : jO cPl h 1 = true) (k6 : Int32 → Int32 → Int32 → Int32 → Int32 → JMu → Option (Int32 × JMu)) (hk6 : ∀ (v1 : Int32) (v2 : Int32) (v3 : Int32) (v4 : Int32) (v5 : Int32) (μ : JMu), JF m1_workOut 1 cPl (fun b : Int32 × JMu => (some (.int b.1), b.2)) 6 [some (.ref h), some (.int (v1)), some (.int (v2)), some (.int (v3)), some (.int (v4)), some (.int (v5)), none] [] μ (k6 v1 v2 v3 v4 v5 μ)) (v1 : Int32) (v2 : Int32) (v3 : Int32) (v4 : Int32) (v5 : Int32) (s0 : Int32) (s1 : Int32) (s2 : Nat) (μ : JMu) : JF m1_workOut 1 cPl (fun b : Int32 × JMu => (some (.int b.1), b.2)) 109 [some (.ref h), some (.int (v1)), some (.int (v2)), some (.int (v3)), some (.int (v4)), some (.int (v5)), none] [.int (s0), .int (s1), .ref s2] μ (f1_workOut_b109 h k6 v1 v2 v3 v4 v5 s0 s1 s2 μ) := by
  unfold f1_workOut_b109
  refine J_callS_i (M' := m1_asInt) (as := [_]) dX1_workOut_109 lX1_56 sm1_asInt sm1_asInt_w (by decide) rfl (Nat.le_of_ble_eq_true rfl) (c1_asInt _ _) (fun r26 => ?_)
  refine JF_chk (fun o27 => ?_)
  refine JF_chk (fun c28 => ?_)
  refine J_iast dX1_workOut_112 o27 rfl (jin_spec c28) rfl ?_
  refine J_goto dX1_workOut_113 (tgt := 158) (by decide) ?_
  refine J_iinc dX1_workOut_158 rfl (c0 := (1 : Int32)) rfl (by decide) rfl ?_
  refine J_goto dX1_workOut_161 (tgt := 6) (by decide) ?_
  exact hk6 _ _ _ _ _ _
set_option maxRecDepth 20000 in
theorem c1_workOut_b6 (h : Nat) (o_h : jO cPl h 1 = true) (n : Nat) : ∀ (v1 : Int32) (v2 : Int32) (v3 : Int32) (v4 : Int32) (v5 : Int32) (μ : JMu), JF m1_workOut 1 cPl (fun b : Int32 × JMu => (some (.int b.1), b.2)) 6 [some (.ref h), some (.int (v1)), some (.int (v2)), some (.int (v3)), some (.int (v4)), some (.int (v5)), none] [] μ (f1_workOut_b6 h n v1 v2 v3 v4 v5 μ) := by
  induction n with
  | zero => intros; exact JF_none
  | succ n ih =>
    intro v1 v2 v3 v4 v5 μ
    rw [f1_workOut_b6]
    refine J_iload dX1_workOut_6 rfl ?_
    refine J_aload_n dX1_workOut_8 rfl ?_
    refine J_getR dX1_workOut_9 wX1_14 rfl o_h rfl ?_
    refine JF_chk (fun o29 => ?_)
    refine J_getI dX1_workOut_12 wX1_32 rfl o29 ?_
    refine J_icmp_ge dX1_workOut_15 (tgt := 164) (by decide) (fun c30 => ?_) (fun c30 => ?_)
    · refine J_iload dX1_workOut_164 rfl ?_
      refine J_iconst dX1_workOut_166 (v := (1 : Int32)) rfl ?_
      refine J_icmp_ge dX1_workOut_167 (tgt := 174) (by decide) (fun c31 => ?_) (fun c31 => ?_)
      · refine J_aload_n dX1_workOut_174 rfl ?_
        refine J_getR dX1_workOut_175 wX1_20 rfl o_h rfl ?_
        refine J_iload dX1_workOut_178 rfl ?_
        refine J_iconst dX1_workOut_180 (v := (1 : Int32)) rfl ?_
        refine J_isub dX1_workOut_181 ?_
        refine JF_chk (fun o32 => ?_)
        refine JF_chk (fun c33 => ?_)
        refine J_iald dX1_workOut_182 o32 rfl (jin_spec c33) rfl ?_
        exact J_iret dX1_workOut_183 rfl rfl
      · refine J_iconst dX1_workOut_170 (v := (0 : Int32)) rfl ?_
        refine J_goto dX1_workOut_171 (tgt := 183) (by decide) ?_
        exact J_iret dX1_workOut_183 rfl rfl
    · refine J_aload_n dX1_workOut_18 rfl ?_
      refine J_getR dX1_workOut_19 wX1_14 rfl o_h rfl ?_
      refine J_iload dX1_workOut_22 rfl ?_
      refine J_callV_i (M' := m3_get) (as := [_]) dX1_workOut_24 lX1_48 sm3_get sm3_get_w o29 hci_X3 (by decide) rfl (Nat.le_of_ble_eq_true rfl) (c3_get _ _ _) (fun r34 => ?_)
      refine J_istore dX1_workOut_27  (by decide) rfl ?_
      refine J_iload dX1_workOut_29 rfl ?_
      refine J_bipush dX1_workOut_31 (v := (-3 : Int32)) rfl ?_
      refine J_icmp_lt dX1_workOut_33 (tgt := 69) (by decide) (fun c35 => ?_) (fun c35 => ?_)
      · refine J_iload dX1_workOut_69 rfl ?_
        refine J_bipush dX1_workOut_71 (v := (-33 : Int32)) rfl ?_
        refine J_icmp_ne dX1_workOut_73 (tgt := 116) (by decide) (fun c36 => ?_) (fun c36 => ?_)
        · refine J_iload dX1_workOut_76 rfl ?_
          refine J_iconst dX1_workOut_78 (v := (1 : Int32)) rfl ?_
          refine J_icmp_ge dX1_workOut_79 (tgt := 84) (by decide) (fun c43 => ?_) (fun c43 => ?_)
          · refine J_aload_n dX1_workOut_84 rfl ?_
            refine J_getR dX1_workOut_85 wX1_20 rfl o_h rfl ?_
            refine J_iload dX1_workOut_88 rfl ?_
            refine J_iconst dX1_workOut_90 (v := (1 : Int32)) rfl ?_
            refine J_isub dX1_workOut_91 ?_
            refine J_aload_n dX1_workOut_92 rfl ?_
            refine J_getR dX1_workOut_93 wX1_20 rfl o_h rfl ?_
            refine J_iload dX1_workOut_96 rfl ?_
            refine J_iconst dX1_workOut_98 (v := (1 : Int32)) rfl ?_
            refine J_isub dX1_workOut_99 ?_
            refine JF_chk (fun o44 => ?_)
            refine JF_chk (fun c46 => ?_)
            refine J_iald dX1_workOut_100 o44 rfl (jin_spec c46) rfl ?_
            refine J_if_ne dX1_workOut_101 (tgt := 108) (by decide) (fun c45 => ?_) (fun c45 => ?_)
            · refine J_iconst dX1_workOut_104 (v := (1 : Int32)) rfl ?_
              refine J_goto dX1_workOut_105 (tgt := 109) (by decide) ?_
              refine JF_drop [6] ?_
              exact c1_workOut_b109 h o_h _ ih _ _ _ _ _ _ _ _ _
            · refine J_iconst dX1_workOut_108 (v := (0 : Int32)) rfl ?_
              refine JF_drop [6] ?_
              exact c1_workOut_b109 h o_h _ ih _ _ _ _ _ _ _ _ _
          · refine J_iconst dX1_workOut_82 (v := (0 : Int32)) rfl ?_
            exact J_iret dX1_workOut_83 rfl rfl
        · refine J_iload dX1_workOut_116 rfl ?_
          refine J_iconst dX1_workOut_118 (v := (2 : Int32)) rfl ?_
          refine J_icmp_ge dX1_workOut_119 (tgt := 124) (by decide) (fun c37 => ?_) (fun c37 => ?_)
          · refine J_iinc dX1_workOut_124 rfl (c0 := (-1 : Int32)) rfl (by decide) rfl ?_
            refine J_aload_n dX1_workOut_127 rfl ?_
            refine J_getR dX1_workOut_128 wX1_20 rfl o_h rfl ?_
            refine J_iload dX1_workOut_131 rfl ?_
            refine J_iconst dX1_workOut_133 (v := (1 : Int32)) rfl ?_
            refine J_isub dX1_workOut_134 ?_
            refine J_iload dX1_workOut_135 rfl ?_
            refine J_ineg dX1_workOut_137 ?_
            refine J_aload_n dX1_workOut_138 rfl ?_
            refine J_getR dX1_workOut_139 wX1_20 rfl o_h rfl ?_
            refine J_iload dX1_workOut_142 rfl ?_
            refine J_iconst dX1_workOut_144 (v := (1 : Int32)) rfl ?_
            refine J_isub dX1_workOut_145 ?_
            refine JF_chk (fun o38 => ?_)
            refine JF_chk (fun c42 => ?_)
            refine J_iald dX1_workOut_146 o38 rfl (jin_spec c42) rfl ?_
            refine J_aload_n dX1_workOut_147 rfl ?_
            refine J_getR dX1_workOut_148 wX1_20 rfl o_h rfl ?_
            refine J_iload dX1_workOut_151 rfl ?_
            refine JF_chk (fun c41 => ?_)
            refine J_iald dX1_workOut_153 o38 rfl (jin_spec c41) rfl ?_
            refine J_callS_i (M' := m1_join) (as := [_, _, _]) dX1_workOut_154 lX1_60 sm1_join sm1_join_w (by decide) rfl (Nat.le_of_ble_eq_true rfl) (c1_join _ _ _ _) (fun r39 => ?_)
            refine JF_chk (fun c40 => ?_)
            refine J_iast dX1_workOut_157 o38 rfl (jin_spec c40) rfl ?_
            refine J_iinc dX1_workOut_158 rfl (c0 := (1 : Int32)) rfl (by decide) rfl ?_
            refine J_goto dX1_workOut_161 (tgt := 6) (by decide) ?_
            refine JF_drop [6] ?_
            exact ih _ _ _ _ _ _
          · refine J_iconst dX1_workOut_122 (v := (0 : Int32)) rfl ?_
            exact J_iret dX1_workOut_123 rfl rfl
      · refine J_iload dX1_workOut_36 rfl ?_
        refine J_aload_n dX1_workOut_38 rfl ?_
        refine J_getR dX1_workOut_39 wX1_20 rfl o_h rfl ?_
        refine JF_chk (fun o47 => ?_)
        refine J_alen dX1_workOut_42 o47 rfl rfl ?_
        refine J_icmp_lt dX1_workOut_43 (tgt := 48) (by decide) (fun c48 => ?_) (fun c48 => ?_)
        · refine J_aload_n dX1_workOut_48 rfl ?_
          refine J_getR dX1_workOut_49 wX1_20 rfl o_h rfl ?_
          refine J_iload dX1_workOut_52 rfl ?_
          refine J_iload dX1_workOut_54 rfl ?_
          refine J_iload_n dX1_workOut_56 rfl ?_
          refine J_iload_n dX1_workOut_57 rfl ?_
          refine J_iload_n dX1_workOut_58 rfl ?_
          refine J_callS_i (M' := m1_valueOf) (as := [_, _, _, _]) dX1_workOut_59 lX1_52 sm1_valueOf sm1_valueOf_w (by decide) rfl (Nat.le_of_ble_eq_true rfl) (c1_valueOf _ _ _ _ _) (fun r49 => ?_)
          refine JF_chk (fun c50 => ?_)
          refine J_iast dX1_workOut_62 o47 rfl (jin_spec c50) rfl ?_
          refine J_iinc dX1_workOut_63 rfl (c0 := (1 : Int32)) rfl (by decide) rfl ?_
          refine J_goto dX1_workOut_66 (tgt := 158) (by decide) ?_
          refine J_iinc dX1_workOut_158 rfl (c0 := (1 : Int32)) rfl (by decide) rfl ?_
          refine J_goto dX1_workOut_161 (tgt := 6) (by decide) ?_
          refine JF_drop [6] ?_
          exact ih _ _ _ _ _ _
        · refine J_iconst dX1_workOut_46 (v := (0 : Int32)) rfl ?_
          exact J_iret dX1_workOut_47 rfl rfl
set_option maxRecDepth 20000 in
theorem c1_workOut (h : Nat) (a1 : Int32) (a2 : Int32) (a3 : Int32) (μ : JMu) : ∀ b, f1_workOut h a1 a2 a3 μ = some b → JC m1_workOut 1 cPl [.ref h, .int (a1), .int (a2), .int (a3)] μ (some (.int b.1), b.2) := by
  refine JC_of (emb := (fun b : Int32 × JMu => (some (.int b.1), b.2))) (L0 := [some (.ref h), some (.int (a1)), some (.int (a2)), some (.int (a3)), none, none, none]) sm1_workOut (Nat.le_of_ble_eq_true rfl) rfl ?_
  unfold f1_workOut
  refine JF_chk (fun o_h => ?_)
  refine J_iconst dX1_workOut_0 (v := (0 : Int32)) rfl ?_
  refine J_istore dX1_workOut_1  (by decide) rfl ?_
  refine J_iconst dX1_workOut_3 (v := (0 : Int32)) rfl ?_
  refine J_istore dX1_workOut_4  (by decide) rfl ?_
  exact c1_workOut_b6 h o_h jN _ _ _ _ _ _
set_option maxRecDepth 20000 in
theorem c1_rule_b54 (h : Nat) (o_h : jO cPl h 1 = true) (s0 : Int32) (μ : JMu) : JF m1_rule 2 cPl (fun b : Int32 × JMu => (some (.int b.1), b.2)) 54 [none, none, none, none, none] [.int (s0)] μ (f1_rule_b54 h s0 μ) := by
  unfold f1_rule_b54
  refine J_istore dX1_rule_54  (by decide) rfl ?_
  refine J_iconst dX1_rule_56 (v := (0 : Int32)) rfl ?_
  refine J_bipush dX1_rule_57 (v := (99 : Int32)) rfl ?_
  refine J_iload dX1_rule_59 rfl ?_
  refine J_min dX1_rule_61 lX1_39 wm_min_s wm_i wm_min_c (by decide) (Nat.le_of_ble_eq_true rfl) ?_
  refine J_max dX1_rule_64 lX1_45 wm_max_s wm_i wm_max_c (by decide) (Nat.le_of_ble_eq_true rfl) ?_
  exact J_iret dX1_rule_67 rfl rfl
set_option maxRecDepth 20000 in
theorem c1_rule (h : Nat) (a1 : Int32) (a2 : Int32) (a3 : Int32) (μ : JMu) : ∀ b, f1_rule h a1 a2 a3 μ = some b → JC m1_rule 2 cPl [.ref h, .int (a1), .int (a2), .int (a3)] μ (some (.int b.1), b.2) := by
  refine JC_of (emb := (fun b : Int32 × JMu => (some (.int b.1), b.2))) (L0 := [some (.ref h), some (.int (a1)), some (.int (a2)), some (.int (a3)), none]) sm1_rule (Nat.le_of_ble_eq_true rfl) rfl ?_
  unfold f1_rule
  refine JF_chk (fun o_h => ?_)
  refine J_aload_n dX1_rule_0 rfl ?_
  refine J_getI dX1_rule_1 wX1_24 rfl o_h ?_
  refine J_if_ne dX1_rule_4 (tgt := 29) (by decide) (fun c8 => ?_) (fun c8 => ?_)
  · refine J_aload_n dX1_rule_7 rfl ?_
    refine J_getR dX1_rule_8 wX1_14 rfl o_h rfl ?_
    refine JF_chk (fun o12 => ?_)
    refine J_getI dX1_rule_11 wX1_32 rfl o12 ?_
    refine J_if_ne dX1_rule_14 (tgt := 21) (by decide) (fun c13 => ?_) (fun c13 => ?_)
    · refine J_iconst dX1_rule_17 (v := (0 : Int32)) rfl ?_
      refine J_goto dX1_rule_18 (tgt := 28) (by decide) ?_
      exact J_iret dX1_rule_28 rfl rfl
    · refine J_aload_n dX1_rule_21 rfl ?_
      refine J_iload_n dX1_rule_22 rfl ?_
      refine J_iload_n dX1_rule_23 rfl ?_
      refine J_iload_n dX1_rule_24 rfl ?_
      refine J_callV_w (M' := m1_workOut) (as := [_, _, _]) dX1_rule_25 lX1_35 sm1_workOut sm1_workOut_w o_h hci_X1 (by decide) rfl (Nat.le_of_ble_eq_true rfl) (c1_workOut _ _ _ _ _) (fun r14 => ?_)
      exact J_iret dX1_rule_28 rfl rfl
  · refine J_aload_n dX1_rule_29 rfl ?_
    refine J_getR dX1_rule_30 wX1_14 rfl o_h rfl ?_
    refine JF_chk (fun o9 => ?_)
    refine J_getI dX1_rule_33 wX1_32 rfl o9 ?_
    refine J_if_ne dX1_rule_36 (tgt := 47) (by decide) (fun c10 => ?_) (fun c10 => ?_)
    · refine J_iconst dX1_rule_39 (v := (1 : Int32)) rfl ?_
      refine J_iload_n dX1_rule_40 rfl ?_
      refine J_iconst dX1_rule_41 (v := (4 : Int32)) rfl ?_
      refine J_idiv dX1_rule_42 (by decide) ?_
      refine J_iadd dX1_rule_43 ?_
      refine J_goto dX1_rule_44 (tgt := 54) (by decide) ?_
      refine JF_drop [0, 1, 2, 3] ?_
      exact c1_rule_b54 h o_h _ _
    · refine J_aload_n dX1_rule_47 rfl ?_
      refine J_iload_n dX1_rule_48 rfl ?_
      refine J_iload_n dX1_rule_49 rfl ?_
      refine J_iload_n dX1_rule_50 rfl ?_
      refine J_callV_w (M' := m1_workOut) (as := [_, _, _]) dX1_rule_51 lX1_35 sm1_workOut sm1_workOut_w o_h hci_X1 (by decide) rfl (Nat.le_of_ble_eq_true rfl) (c1_workOut _ _ _ _ _) (fun r11 => ?_)
      refine JF_drop [0, 1, 2, 3] ?_
      exact c1_rule_b54 h o_h _ _
set_option maxRecDepth 20000 in
theorem c8_litBy_b29 (μ : JMu) (s0 : Int32) : JF m8_litBy 0 cPl (fun b : Int32 => (some (.int b), μ)) 29 [none, none] [.int (s0)] μ (f8_litBy_b29 s0) := by
  unfold f8_litBy_b29
  refine J_istore_n dX8_litBy_29  (by decide) rfl ?_
  refine J_iload_n dX8_litBy_30 rfl ?_
  refine J_ldcw dX8_litBy_31 kX8_274 ?_
  refine J_imul dX8_litBy_34 ?_
  exact J_iret dX8_litBy_35 rfl rfl
set_option maxRecDepth 20000 in
theorem c8_litBy (a1 : Int32) (μ : JMu) : ∀ b, f8_litBy a1 = some b → JC m8_litBy 0 cPl [.int (a1)] μ (some (.int b), μ) := by
  refine JC_of (emb := (fun b : Int32 => (some (.int b), μ))) (L0 := [some (.int (a1)), none]) sm8_litBy (Nat.le_of_ble_eq_true rfl) rfl ?_
  unfold f8_litBy
  refine J_iload_n dX8_litBy_0 rfl ?_
  refine J_bipush dX8_litBy_1 (v := (8 : Int32)) rfl ?_
  refine J_icmp_gt dX8_litBy_3 (tgt := 21) (by decide) (fun c2 => ?_) (fun c2 => ?_)
  · refine J_sipush dX8_litBy_21 (v := (255 : Int32)) rfl ?_
    refine J_iload_n dX8_litBy_24 rfl ?_
    refine J_bipush dX8_litBy_25 (v := (8 : Int32)) rfl ?_
    refine J_isub dX8_litBy_27 ?_
    refine J_ishr dX8_litBy_28 ?_
    refine JF_drop [0] ?_
    exact c8_litBy_b29 μ _
  · refine J_sipush dX8_litBy_6 (v := (255 : Int32)) rfl ?_
    refine J_bipush dX8_litBy_9 (v := (8 : Int32)) rfl ?_
    refine J_iload_n dX8_litBy_11 rfl ?_
    refine J_isub dX8_litBy_12 ?_
    refine J_ishl dX8_litBy_13 ?_
    refine J_sipush dX8_litBy_14 (v := (255 : Int32)) rfl ?_
    refine J_iand dX8_litBy_17 ?_
    refine J_goto dX8_litBy_18 (tgt := 29) (by decide) ?_
    refine JF_drop [0] ?_
    exact c8_litBy_b29 μ _
set_option maxRecDepth 20000 in
theorem c0_seenIn (h : Nat) (a1 : Int32) (μ : JMu) : ∀ b, f0_seenIn h a1 μ = some b → JC m0_seenIn 3 cPl [.ref h, .int (a1)] μ (some (.int b.1), b.2) := by
  refine JC_of (emb := (fun b : Int32 × JMu => (some (.int b.1), b.2))) (L0 := [some (.ref h), some (.int (a1)), none]) sm0_seenIn (Nat.le_of_ble_eq_true rfl) rfl ?_
  unfold f0_seenIn
  refine JF_chk (fun o_h => ?_)
  refine J_iload_n dX0_seenIn_0 rfl ?_
  refine J_bipush dX0_seenIn_1 (v := (16 : Int32)) rfl ?_
  refine J_irem dX0_seenIn_3 (by decide) ?_
  refine J_istore_n dX0_seenIn_4  (by decide) rfl ?_
  refine J_aload_n dX0_seenIn_5 rfl ?_
  refine J_getR dX0_seenIn_6 wX0_36 rfl o_h rfl ?_
  refine J_iload_n dX0_seenIn_9 rfl ?_
  refine J_iload_n dX0_seenIn_10 rfl ?_
  refine J_aload_n dX0_seenIn_11 rfl ?_
  refine J_getI dX0_seenIn_12 wX0_47 rfl o_h ?_
  refine JF_chk (fun o5 => ?_)
  refine J_callV_w (M' := m1_rule) (as := [_, _, _]) dX0_seenIn_15 lX0_84 sm1_rule sm1_rule_w o5 hci_X1 (by decide) rfl (Nat.le_of_ble_eq_true rfl) (c1_rule _ _ _ _ _) (fun r6 => ?_)
  refine J_if_eq dX0_seenIn_18 (tgt := 25) (by decide) (fun c7 => ?_) (fun c7 => ?_)
  · refine J_iload_n dX0_seenIn_25 rfl ?_
    refine J_callSN_i (M' := m8_litBy) (as := [_]) dX0_seenIn_26 lX0_88 sm8_litBy sm8_litBy_w (by decide) rfl (Nat.le_of_ble_eq_true rfl) (c8_litBy _ _) (fun r8 => ?_)
    exact J_iret dX0_seenIn_29 rfl rfl
  · refine J_iconst dX0_seenIn_21 (v := (0 : Int32)) rfl ?_
    refine J_goto dX0_seenIn_22 (tgt := 29) (by decide) ?_
    exact J_iret dX0_seenIn_29 rfl rfl
set_option maxRecDepth 20000 in
theorem c0_holdersOf_b4 (h : Nat) (o_h : jO cPl h 0 = true) (μ : JMu) (n : Nat) : ∀ (v1 : Int32) (v2 : Int32) (v3 : Int32), JF m0_holdersOf 1 cPl (fun b : Int32 => (some (.int b), μ)) 4 [some (.ref h), some (.int (v1)), some (.int (v2)), some (.int (v3)), none] [] μ (f0_holdersOf_b4 h n v1 v2 v3 μ) := by
  induction n with
  | zero => intros; exact JF_none
  | succ n ih =>
    intro v1 v2 v3
    rw [f0_holdersOf_b4]
    refine J_iload_n dX0_holdersOf_4 rfl ?_
    refine J_aload_n dX0_holdersOf_5 rfl ?_
    refine J_getI dX0_holdersOf_6 wX0_50 rfl o_h ?_
    refine J_icmp_ge dX0_holdersOf_9 (tgt := 46) (by decide) (fun c6 => ?_) (fun c6 => ?_)
    · refine J_iload_n dX0_holdersOf_46 rfl ?_
      exact J_iret dX0_holdersOf_47 rfl rfl
    · refine J_aload_n dX0_holdersOf_12 rfl ?_
      refine J_iload_n dX0_holdersOf_13 rfl ?_
      refine J_callV_q (M' := m0_find) (as := [_]) dX0_holdersOf_14 lX0_53 sm0_find sm0_find_w o_h hci_X0 (by decide) rfl (Nat.le_of_ble_eq_true rfl) (c0_find _ _ _) (fun r7 => ?_)
      refine J_astoreQ dX0_holdersOf_17 (x := r7) (by decide) rfl ?_
      refine J_aloadQ dX0_holdersOf_19 (x := r7) rfl ?_
      rcases r7 with _ | p8
      · refine J_ifnull0 dX0_holdersOf_21 (tgt := 40) (by decide) ?_
        refine J_iinc dX0_holdersOf_40 rfl (c0 := (1 : Int32)) rfl (by decide) rfl ?_
        refine J_goto dX0_holdersOf_43 (tgt := 4) (by decide) ?_
        refine JF_drop [4] ?_
        exact ih _ _ _
      · refine J_ifnull1 dX0_holdersOf_21 ?_
        refine J_aload dX0_holdersOf_24 rfl ?_
        refine JF_chk (fun o9 => ?_)
        refine J_getI dX0_holdersOf_26 wX0_74 rfl o9 ?_
        refine J_iload_n dX0_holdersOf_29 rfl ?_
        refine J_iand dX0_holdersOf_30 ?_
        refine J_if_eq dX0_holdersOf_31 (tgt := 40) (by decide) (fun c10 => ?_) (fun c10 => ?_)
        · refine J_iinc dX0_holdersOf_40 rfl (c0 := (1 : Int32)) rfl (by decide) rfl ?_
          refine J_goto dX0_holdersOf_43 (tgt := 4) (by decide) ?_
          refine JF_drop [4] ?_
          exact ih _ _ _
        · refine J_iload_n dX0_holdersOf_34 rfl ?_
          refine J_iconst dX0_holdersOf_35 (v := (1 : Int32)) rfl ?_
          refine J_iload_n dX0_holdersOf_36 rfl ?_
          refine J_ishl dX0_holdersOf_37 ?_
          refine J_ior dX0_holdersOf_38 ?_
          refine J_istore_n dX0_holdersOf_39  (by decide) rfl ?_
          refine J_iinc dX0_holdersOf_40 rfl (c0 := (1 : Int32)) rfl (by decide) rfl ?_
          refine J_goto dX0_holdersOf_43 (tgt := 4) (by decide) ?_
          refine JF_drop [4] ?_
          exact ih _ _ _
set_option maxRecDepth 20000 in
theorem c0_holdersOf (h : Nat) (a1 : Int32) (μ : JMu) : ∀ b, f0_holdersOf h a1 μ = some b → JC m0_holdersOf 1 cPl [.ref h, .int (a1)] μ (some (.int b), μ) := by
  refine JC_of (emb := (fun b : Int32 => (some (.int b), μ))) (L0 := [some (.ref h), some (.int (a1)), none, none, none]) sm0_holdersOf (Nat.le_of_ble_eq_true rfl) rfl ?_
  unfold f0_holdersOf
  refine JF_chk (fun o_h => ?_)
  refine J_iconst dX0_holdersOf_0 (v := (0 : Int32)) rfl ?_
  refine J_istore_n dX0_holdersOf_1  (by decide) rfl ?_
  refine J_iconst dX0_holdersOf_2 (v := (0 : Int32)) rfl ?_
  refine J_istore_n dX0_holdersOf_3  (by decide) rfl ?_
  exact c0_holdersOf_b4 h o_h μ jN _ _ _
set_option maxRecDepth 20000 in
theorem c0_heldByOthers_b4 (h : Nat) (o_h : jO cPl h 0 = true) (μ : JMu) (n : Nat) : ∀ (v1 : Int32) (v2 : Int32) (v3 : Int32), JF m0_heldByOthers 1 cPl (fun b : Int32 => (some (.int b), μ)) 4 [some (.ref h), some (.int (v1)), some (.int (v2)), some (.int (v3)), none] [] μ (f0_heldByOthers_b4 h n v1 v2 v3 μ) := by
  induction n with
  | zero => intros; exact JF_none
  | succ n ih =>
    intro v1 v2 v3
    rw [f0_heldByOthers_b4]
    refine J_iload_n dX0_heldByOthers_4 rfl ?_
    refine J_aload_n dX0_heldByOthers_5 rfl ?_
    refine J_getI dX0_heldByOthers_6 wX0_50 rfl o_h ?_
    refine J_icmp_ge dX0_heldByOthers_9 (tgt := 43) (by decide) (fun c6 => ?_) (fun c6 => ?_)
    · refine J_iload_n dX0_heldByOthers_43 rfl ?_
      exact J_iret dX0_heldByOthers_44 rfl rfl
    · refine J_aload_n dX0_heldByOthers_12 rfl ?_
      refine J_iload_n dX0_heldByOthers_13 rfl ?_
      refine J_callV_q (M' := m0_find) (as := [_]) dX0_heldByOthers_14 lX0_53 sm0_find sm0_find_w o_h hci_X0 (by decide) rfl (Nat.le_of_ble_eq_true rfl) (c0_find _ _ _) (fun r7 => ?_)
      refine J_astoreQ dX0_heldByOthers_17 (x := r7) (by decide) rfl ?_
      refine J_aloadQ dX0_heldByOthers_19 (x := r7) rfl ?_
      rcases r7 with _ | p8
      · refine J_ifnull0 dX0_heldByOthers_21 (tgt := 37) (by decide) ?_
        refine J_iinc dX0_heldByOthers_37 rfl (c0 := (1 : Int32)) rfl (by decide) rfl ?_
        refine J_goto dX0_heldByOthers_40 (tgt := 4) (by decide) ?_
        refine JF_drop [4] ?_
        exact ih _ _ _
      · refine J_ifnull1 dX0_heldByOthers_21 ?_
        refine J_iload_n dX0_heldByOthers_24 rfl ?_
        refine J_iload_n dX0_heldByOthers_25 rfl ?_
        refine J_icmp_eq dX0_heldByOthers_26 (tgt := 37) (by decide) (fun c9 => ?_) (fun c9 => ?_)
        · refine J_iinc dX0_heldByOthers_37 rfl (c0 := (1 : Int32)) rfl (by decide) rfl ?_
          refine J_goto dX0_heldByOthers_40 (tgt := 4) (by decide) ?_
          refine JF_drop [4] ?_
          exact ih _ _ _
        · refine J_iload_n dX0_heldByOthers_29 rfl ?_
          refine J_aload dX0_heldByOthers_30 rfl ?_
          refine JF_chk (fun o10 => ?_)
          refine J_getI dX0_heldByOthers_32 wX0_74 rfl o10 ?_
          refine J_ior dX0_heldByOthers_35 ?_
          refine J_istore_n dX0_heldByOthers_36  (by decide) rfl ?_
          refine J_iinc dX0_heldByOthers_37 rfl (c0 := (1 : Int32)) rfl (by decide) rfl ?_
          refine J_goto dX0_heldByOthers_40 (tgt := 4) (by decide) ?_
          refine JF_drop [4] ?_
          exact ih _ _ _
set_option maxRecDepth 20000 in
theorem c0_heldByOthers (h : Nat) (a1 : Int32) (μ : JMu) : ∀ b, f0_heldByOthers h a1 μ = some b → JC m0_heldByOthers 1 cPl [.ref h, .int (a1)] μ (some (.int b), μ) := by
  refine JC_of (emb := (fun b : Int32 => (some (.int b), μ))) (L0 := [some (.ref h), some (.int (a1)), none, none, none]) sm0_heldByOthers (Nat.le_of_ble_eq_true rfl) rfl ?_
  unfold f0_heldByOthers
  refine JF_chk (fun o_h => ?_)
  refine J_iconst dX0_heldByOthers_0 (v := (0 : Int32)) rfl ?_
  refine J_istore_n dX0_heldByOthers_1  (by decide) rfl ?_
  refine J_iconst dX0_heldByOthers_2 (v := (0 : Int32)) rfl ?_
  refine J_istore_n dX0_heldByOthers_3  (by decide) rfl ?_
  exact c0_heldByOthers_b4 h o_h μ jN _ _ _
set_option maxRecDepth 20000 in
theorem cj6_bitCount_0f7a4 (Pl : List Nat) (a1 : Int32) (μ : JMu) : ∀ b, fj6_bitCount_0f7a4 a1 = some b → JC mj6_bitCount_0f7a4 0 Pl [.int (a1)] μ (some (.int b), μ) := by
  refine JC_of (emb := (fun b : Int32 => (some (.int b), μ))) (L0 := [some (.int (a1))]) smj6_bitCount_0f7a4 (Nat.le_of_ble_eq_true rfl) rfl ?_
  unfold fj6_bitCount_0f7a4
  refine J_iload_n dJ6_bitCount_0f7a4_0 rfl ?_
  refine J_iload_n dJ6_bitCount_0f7a4_1 rfl ?_
  refine J_iconst dJ6_bitCount_0f7a4_2 (v := (1 : Int32)) rfl ?_
  refine J_iushr dJ6_bitCount_0f7a4_3 ?_
  refine J_ldcw dJ6_bitCount_0f7a4_4 kJ6_265 ?_
  refine J_iand dJ6_bitCount_0f7a4_7 ?_
  refine J_isub dJ6_bitCount_0f7a4_8 ?_
  refine J_istore_n dJ6_bitCount_0f7a4_9  (by decide) rfl ?_
  refine J_iload_n dJ6_bitCount_0f7a4_10 rfl ?_
  refine J_ldcw dJ6_bitCount_0f7a4_11 kJ6_266 ?_
  refine J_iand dJ6_bitCount_0f7a4_14 ?_
  refine J_iload_n dJ6_bitCount_0f7a4_15 rfl ?_
  refine J_iconst dJ6_bitCount_0f7a4_16 (v := (2 : Int32)) rfl ?_
  refine J_iushr dJ6_bitCount_0f7a4_17 ?_
  refine J_ldcw dJ6_bitCount_0f7a4_18 kJ6_266 ?_
  refine J_iand dJ6_bitCount_0f7a4_21 ?_
  refine J_iadd dJ6_bitCount_0f7a4_22 ?_
  refine J_istore_n dJ6_bitCount_0f7a4_23  (by decide) rfl ?_
  refine J_iload_n dJ6_bitCount_0f7a4_24 rfl ?_
  refine J_iload_n dJ6_bitCount_0f7a4_25 rfl ?_
  refine J_iconst dJ6_bitCount_0f7a4_26 (v := (4 : Int32)) rfl ?_
  refine J_iushr dJ6_bitCount_0f7a4_27 ?_
  refine J_iadd dJ6_bitCount_0f7a4_28 ?_
  refine J_ldcw dJ6_bitCount_0f7a4_29 kJ6_267 ?_
  refine J_iand dJ6_bitCount_0f7a4_32 ?_
  refine J_istore_n dJ6_bitCount_0f7a4_33  (by decide) rfl ?_
  refine J_iload_n dJ6_bitCount_0f7a4_34 rfl ?_
  refine J_iload_n dJ6_bitCount_0f7a4_35 rfl ?_
  refine J_bipush dJ6_bitCount_0f7a4_36 (v := (8 : Int32)) rfl ?_
  refine J_iushr dJ6_bitCount_0f7a4_38 ?_
  refine J_iadd dJ6_bitCount_0f7a4_39 ?_
  refine J_istore_n dJ6_bitCount_0f7a4_40  (by decide) rfl ?_
  refine J_iload_n dJ6_bitCount_0f7a4_41 rfl ?_
  refine J_iload_n dJ6_bitCount_0f7a4_42 rfl ?_
  refine J_bipush dJ6_bitCount_0f7a4_43 (v := (16 : Int32)) rfl ?_
  refine J_iushr dJ6_bitCount_0f7a4_45 ?_
  refine J_iadd dJ6_bitCount_0f7a4_46 ?_
  refine J_istore_n dJ6_bitCount_0f7a4_47  (by decide) rfl ?_
  refine J_iload_n dJ6_bitCount_0f7a4_48 rfl ?_
  refine J_bipush dJ6_bitCount_0f7a4_49 (v := (63 : Int32)) rfl ?_
  refine J_iand dJ6_bitCount_0f7a4_51 ?_
  exact J_iret dJ6_bitCount_0f7a4_52 rfl rfl
set_option maxRecDepth 20000 in
theorem c0_sharersWith (h : Nat) (a1 : Int32) (μ : JMu) : ∀ b, f0_sharersWith h a1 μ = some b → JC m0_sharersWith 2 cPl [.ref h, .int (a1)] μ (some (.int b), μ) := by
  refine JC_of (emb := (fun b : Int32 => (some (.int b), μ))) (L0 := [some (.ref h), some (.int (a1)), none]) sm0_sharersWith (Nat.le_of_ble_eq_true rfl) rfl ?_
  unfold f0_sharersWith
  refine JF_chk (fun o_h => ?_)
  refine J_aload_n dX0_sharersWith_0 rfl ?_
  refine J_iload_n dX0_sharersWith_1 rfl ?_
  refine J_callV_q (M' := m0_find) (as := [_]) dX0_sharersWith_2 lX0_53 sm0_find sm0_find_w o_h hci_X0 (by decide) rfl (Nat.le_of_ble_eq_true rfl) (c0_find _ _ _) (fun r6 => ?_)
  refine J_astore_nQ dX0_sharersWith_5 (x := r6) (by decide) rfl ?_
  refine J_aload_nQ dX0_sharersWith_6 (x := r6) rfl ?_
  rcases r6 with _ | p7
  · refine J_ifnonnull0 dX0_sharersWith_7 ?_
    refine J_iconst dX0_sharersWith_10 (v := (0 : Int32)) rfl ?_
    exact J_iret dX0_sharersWith_11 rfl rfl
  · refine J_ifnonnull1 dX0_sharersWith_7 (tgt := 12) (by decide) ?_
    refine J_aload_n dX0_sharersWith_12 rfl ?_
    refine J_aload_n dX0_sharersWith_13 rfl ?_
    refine JF_chk (fun o8 => ?_)
    refine J_getI dX0_sharersWith_14 wX0_74 rfl o8 ?_
    refine J_callV_i (M' := m0_holdersOf) (as := [_]) dX0_sharersWith_17 lX0_92 sm0_holdersOf sm0_holdersOf_w o_h hci_X0 (by decide) rfl (Nat.le_of_ble_eq_true rfl) (c0_holdersOf _ _ _) (fun r9 => ?_)
    refine J_iconst dX0_sharersWith_20 (v := (1 : Int32)) rfl ?_
    refine J_iload_n dX0_sharersWith_21 rfl ?_
    refine J_ishl dX0_sharersWith_22 ?_
    refine J_iconst dX0_sharersWith_23 (v := (-1 : Int32)) rfl ?_
    refine J_ixor dX0_sharersWith_24 ?_
    refine J_iand dX0_sharersWith_25 ?_
    refine J_callS_i (M' := mj6_bitCount_0f7a4) (as := [_]) dX0_sharersWith_26 lX0_95 smj6_bitCount_0f7a4 smj6_bitCount_0f7a4_w (by decide) rfl (Nat.le_of_ble_eq_true rfl) (cj6_bitCount_0f7a4 cPl _ _) (fun r10 => ?_)
    exact J_iret dX0_sharersWith_29 rfl rfl
set_option maxRecDepth 20000 in
theorem c0_howManyEvicted_b4 (h : Nat) (o_h : jO cPl h 0 = true) (μ : JMu) (n : Nat) : ∀ (v1 : Int32) (v2 : Int32), JF m0_howManyEvicted 1 cPl (fun b : Int32 => (some (.int b), μ)) 4 [some (.ref h), some (.int (v1)), some (.int (v2)), none] [] μ (f0_howManyEvicted_b4 h n v1 v2 μ) := by
  induction n with
  | zero => intros; exact JF_none
  | succ n ih =>
    intro v1 v2
    rw [f0_howManyEvicted_b4]
    refine J_iload_n dX0_howManyEvicted_4 rfl ?_
    refine J_aload_n dX0_howManyEvicted_5 rfl ?_
    refine J_getI dX0_howManyEvicted_6 wX0_50 rfl o_h ?_
    refine J_icmp_ge dX0_howManyEvicted_9 (tgt := 38) (by decide) (fun c6 => ?_) (fun c6 => ?_)
    · refine J_iload_n dX0_howManyEvicted_38 rfl ?_
      exact J_iret dX0_howManyEvicted_39 rfl rfl
    · refine J_aload_n dX0_howManyEvicted_12 rfl ?_
      refine J_iload_n dX0_howManyEvicted_13 rfl ?_
      refine J_callV_q (M' := m0_find) (as := [_]) dX0_howManyEvicted_14 lX0_53 sm0_find sm0_find_w o_h hci_X0 (by decide) rfl (Nat.le_of_ble_eq_true rfl) (c0_find _ _ _) (fun r7 => ?_)
      refine J_astore_nQ dX0_howManyEvicted_17 (x := r7) (by decide) rfl ?_
      refine J_aload_nQ dX0_howManyEvicted_18 (x := r7) rfl ?_
      rcases r7 with _ | p8
      · refine J_ifnull0 dX0_howManyEvicted_19 (tgt := 32) (by decide) ?_
        refine J_iinc dX0_howManyEvicted_32 rfl (c0 := (1 : Int32)) rfl (by decide) rfl ?_
        refine J_goto dX0_howManyEvicted_35 (tgt := 4) (by decide) ?_
        refine JF_drop [3] ?_
        exact ih _ _
      · refine J_ifnull1 dX0_howManyEvicted_19 ?_
        refine J_aload_n dX0_howManyEvicted_22 rfl ?_
        refine JF_chk (fun o9 => ?_)
        refine J_getI dX0_howManyEvicted_23 wX0_80 rfl o9 ?_
        refine J_if_eq dX0_howManyEvicted_26 (tgt := 32) (by decide) (fun c10 => ?_) (fun c10 => ?_)
        · refine J_iinc dX0_howManyEvicted_32 rfl (c0 := (1 : Int32)) rfl (by decide) rfl ?_
          refine J_goto dX0_howManyEvicted_35 (tgt := 4) (by decide) ?_
          refine JF_drop [3] ?_
          exact ih _ _
        · refine J_iinc dX0_howManyEvicted_29 rfl (c0 := (1 : Int32)) rfl (by decide) rfl ?_
          refine J_iinc dX0_howManyEvicted_32 rfl (c0 := (1 : Int32)) rfl (by decide) rfl ?_
          refine J_goto dX0_howManyEvicted_35 (tgt := 4) (by decide) ?_
          refine JF_drop [3] ?_
          exact ih _ _
set_option maxRecDepth 20000 in
theorem c0_howManyEvicted (h : Nat) (μ : JMu) : ∀ b, f0_howManyEvicted h μ = some b → JC m0_howManyEvicted 1 cPl [.ref h] μ (some (.int b), μ) := by
  refine JC_of (emb := (fun b : Int32 => (some (.int b), μ))) (L0 := [some (.ref h), none, none, none]) sm0_howManyEvicted (Nat.le_of_ble_eq_true rfl) rfl ?_
  unfold f0_howManyEvicted
  refine JF_chk (fun o_h => ?_)
  refine J_iconst dX0_howManyEvicted_0 (v := (0 : Int32)) rfl ?_
  refine J_istore_n dX0_howManyEvicted_1  (by decide) rfl ?_
  refine J_iconst dX0_howManyEvicted_2 (v := (0 : Int32)) rfl ?_
  refine J_istore_n dX0_howManyEvicted_3  (by decide) rfl ?_
  exact c0_howManyEvicted_b4 h o_h μ jN _ _
set_option maxRecDepth 20000 in
theorem c0_rentTogether_b4 (h : Nat) (o_h : jO cPl h 0 = true) (n : Nat) : ∀ (v1 : Int32) (v2 : Int32) (v3 : Int32) (μ : JMu), JF m0_rentTogether 3 cPl (fun b : Int32 × JMu => (some (.int b.1), b.2)) 4 [some (.ref h), some (.int (v1)), some (.int (v2)), some (.int (v3))] [] μ (f0_rentTogether_b4 h n v1 v2 v3 μ) := by
  induction n with
  | zero => intros; exact JF_none
  | succ n ih =>
    intro v1 v2 v3 μ
    rw [f0_rentTogether_b4]
    refine J_iload_n dX0_rentTogether_4 rfl ?_
    refine J_bipush dX0_rentTogether_5 (v := (24 : Int32)) rfl ?_
    refine J_icmp_ge dX0_rentTogether_7 (tgt := 52) (by decide) (fun c7 => ?_) (fun c7 => ?_)
    · refine J_iload_n dX0_rentTogether_52 rfl ?_
      exact J_iret dX0_rentTogether_53 rfl rfl
    · refine J_iload_n dX0_rentTogether_10 rfl ?_
      refine J_iload_n dX0_rentTogether_11 rfl ?_
      refine J_ishr dX0_rentTogether_12 ?_
      refine J_iconst dX0_rentTogether_13 (v := (1 : Int32)) rfl ?_
      refine J_iand dX0_rentTogether_14 ?_
      refine J_if_eq dX0_rentTogether_15 (tgt := 46) (by decide) (fun c8 => ?_) (fun c8 => ?_)
      · refine J_iinc dX0_rentTogether_46 rfl (c0 := (1 : Int32)) rfl (by decide) rfl ?_
        refine J_goto dX0_rentTogether_49 (tgt := 4) (by decide) ?_
        exact ih _ _ _ _
      · refine J_iload_n dX0_rentTogether_18 rfl ?_
        refine J_aload_n dX0_rentTogether_19 rfl ?_
        refine J_getR dX0_rentTogether_20 wX0_40 rfl o_h rfl ?_
        refine J_iload_n dX0_rentTogether_23 rfl ?_
        refine J_bipush dX0_rentTogether_24 (v := (8 : Int32)) rfl ?_
        refine J_idiv dX0_rentTogether_26 (by decide) ?_
        refine J_iload_n dX0_rentTogether_27 rfl ?_
        refine J_bipush dX0_rentTogether_28 (v := (8 : Int32)) rfl ?_
        refine J_irem dX0_rentTogether_30 (by decide) ?_
        refine J_aload_n dX0_rentTogether_31 rfl ?_
        refine J_iconst dX0_rentTogether_32 (v := (1 : Int32)) rfl ?_
        refine J_iload_n dX0_rentTogether_33 rfl ?_
        refine J_ishl dX0_rentTogether_34 ?_
        refine J_callV_i (M' := m0_holdersOf) (as := [_]) dX0_rentTogether_35 lX0_92 sm0_holdersOf sm0_holdersOf_w o_h hci_X0 (by decide) rfl (Nat.le_of_ble_eq_true rfl) (c0_holdersOf _ _ _) (fun r9 => ?_)
        refine J_callS_i (M' := mj6_bitCount_0f7a4) (as := [_]) dX0_rentTogether_38 lX0_95 smj6_bitCount_0f7a4 smj6_bitCount_0f7a4_w (by decide) rfl (Nat.le_of_ble_eq_true rfl) (cj6_bitCount_0f7a4 cPl _ _) (fun r10 => ?_)
        refine JF_chk (fun o11 => ?_)
        refine J_callV_w (M' := m1_rule) (as := [_, _, _]) dX0_rentTogether_41 lX0_84 sm1_rule sm1_rule_w o11 hci_X1 (by decide) rfl (Nat.le_of_ble_eq_true rfl) (c1_rule _ _ _ _ _) (fun r12 => ?_)
        refine J_iadd dX0_rentTogether_44 ?_
        refine J_istore_n dX0_rentTogether_45  (by decide) rfl ?_
        refine J_iinc dX0_rentTogether_46 rfl (c0 := (1 : Int32)) rfl (by decide) rfl ?_
        refine J_goto dX0_rentTogether_49 (tgt := 4) (by decide) ?_
        exact ih _ _ _ _
set_option maxRecDepth 20000 in
theorem c0_rentTogether (h : Nat) (a1 : Int32) (μ : JMu) : ∀ b, f0_rentTogether h a1 μ = some b → JC m0_rentTogether 3 cPl [.ref h, .int (a1)] μ (some (.int b.1), b.2) := by
  refine JC_of (emb := (fun b : Int32 × JMu => (some (.int b.1), b.2))) (L0 := [some (.ref h), some (.int (a1)), none, none]) sm0_rentTogether (Nat.le_of_ble_eq_true rfl) rfl ?_
  unfold f0_rentTogether
  refine JF_chk (fun o_h => ?_)
  refine J_iconst dX0_rentTogether_0 (v := (0 : Int32)) rfl ?_
  refine J_istore_n dX0_rentTogether_1  (by decide) rfl ?_
  refine J_iconst dX0_rentTogether_2 (v := (0 : Int32)) rfl ?_
  refine J_istore_n dX0_rentTogether_3  (by decide) rfl ?_
  exact c0_rentTogether_b4 h o_h jN _ _ _ _
set_option maxRecDepth 20000 in
theorem c6_looksIn_b44 (h : Nat) (o_h : jO cPl h 6 = true) (μ : JMu) (v1 : Int32) : JF m6_looksIn 1 cPl (fun b : Int32 => (some (.int b), μ)) 44 [some (.ref h), some (.int (v1))] [] μ (f6_looksIn_b44 h v1 μ) := by
  unfold f6_looksIn_b44
  refine J_aload_n dX6_looksIn_44 rfl ?_
  refine J_getI dX6_looksIn_45 wX6_15 rfl o_h ?_
  refine J_iconst dX6_looksIn_48 (v := (2 : Int32)) rfl ?_
  refine J_icmp_gt dX6_looksIn_49 (tgt := 62) (by decide) (fun c12 => ?_) (fun c12 => ?_)
  · refine J_iconst dX6_looksIn_62 (v := (1 : Int32)) rfl ?_
    refine J_goto dX6_looksIn_63 (tgt := 67) (by decide) ?_
    exact J_zret dX6_looksIn_67 rfl (Or.inr rfl) rfl
  · refine J_iload_n dX6_looksIn_52 rfl ?_
    refine J_iconst dX6_looksIn_53 (v := (3 : Int32)) rfl ?_
    refine J_irem dX6_looksIn_54 (by decide) ?_
    refine J_aload_n dX6_looksIn_55 rfl ?_
    refine J_getI dX6_looksIn_56 wX6_15 rfl o_h ?_
    refine J_icmp_ne dX6_looksIn_59 (tgt := 66) (by decide) (fun c13 => ?_) (fun c13 => ?_)
    · refine J_iconst dX6_looksIn_62 (v := (1 : Int32)) rfl ?_
      refine J_goto dX6_looksIn_63 (tgt := 67) (by decide) ?_
      exact J_zret dX6_looksIn_67 rfl (Or.inr rfl) rfl
    · refine J_iconst dX6_looksIn_66 (v := (0 : Int32)) rfl ?_
      exact J_zret dX6_looksIn_67 rfl (Or.inl rfl) rfl
set_option maxRecDepth 20000 in
theorem c6_looksIn_b91 (h : Nat) (o_h : jO cPl h 6 = true) (μ : JMu) (v1 : Int32) : JF m6_looksIn 1 cPl (fun b : Int32 => (some (.int b), μ)) 91 [none, some (.int (v1))] [] μ (f6_looksIn_b91 h v1 μ) := by
  unfold f6_looksIn_b91
  refine J_iload_n dX6_looksIn_91 rfl ?_
  refine J_iconst dX6_looksIn_92 (v := (2 : Int32)) rfl ?_
  refine J_irem dX6_looksIn_93 (by decide) ?_
  refine J_if_ne dX6_looksIn_94 (tgt := 101) (by decide) (fun c14 => ?_) (fun c14 => ?_)
  · refine J_iconst dX6_looksIn_97 (v := (1 : Int32)) rfl ?_
    refine J_goto dX6_looksIn_98 (tgt := 102) (by decide) ?_
    exact J_zret dX6_looksIn_102 rfl (Or.inr rfl) rfl
  · refine J_iconst dX6_looksIn_101 (v := (0 : Int32)) rfl ?_
    exact J_zret dX6_looksIn_102 rfl (Or.inl rfl) rfl
set_option maxRecDepth 20000 in
theorem c6_looksIn (h : Nat) (a1 : Int32) (μ : JMu) : ∀ b, f6_looksIn h a1 μ = some b → JC m6_looksIn 1 cPl [.ref h, .int (a1)] μ (some (.int b), μ) := by
  refine JC_of (emb := (fun b : Int32 => (some (.int b), μ))) (L0 := [some (.ref h), some (.int (a1))]) sm6_looksIn (Nat.le_of_ble_eq_true rfl) rfl ?_
  unfold f6_looksIn
  refine JF_chk (fun o_h => ?_)
  refine J_aload_n dX6_looksIn_0 rfl ?_
  refine J_getI dX6_looksIn_1 wX6_9 rfl o_h ?_
  refine JF_ite (fun c15 => ?_) (fun c15 => ?_)
  · refine J_tabIn (1 : Int32) dX6_looksIn_4 (tgt := 44)  c15 (by decide) (by decide) rfl (by decide) ?_
    exact c6_looksIn_b44 h o_h μ _
  · refine JF_ite (fun c16 => ?_) (fun c16 => ?_)
    · refine J_tabIn (2 : Int32) dX6_looksIn_4 (tgt := 68)  c16 (by decide) (by decide) rfl (by decide) ?_
      refine J_aload_n dX6_looksIn_68 rfl ?_
      refine J_getI dX6_looksIn_69 wX6_18 rfl o_h ?_
      refine J_iload_n dX6_looksIn_72 rfl ?_
      refine J_bipush dX6_looksIn_73 (v := (16 : Int32)) rfl ?_
      refine J_irem dX6_looksIn_75 (by decide) ?_
      refine J_callSN_i (M' := m8_litBy) (as := [_]) dX6_looksIn_76 lX6_28 sm8_litBy sm8_litBy_w (by decide) rfl (Nat.le_of_ble_eq_true rfl) (c8_litBy _ _) (fun r17 => ?_)
      refine J_iand dX6_looksIn_79 ?_
      refine J_if_eq dX6_looksIn_80 (tgt := 87) (by decide) (fun c18 => ?_) (fun c18 => ?_)
      · refine J_iconst dX6_looksIn_87 (v := (0 : Int32)) rfl ?_
        exact J_zret dX6_looksIn_88 rfl (Or.inl rfl) rfl
      · refine J_iconst dX6_looksIn_83 (v := (1 : Int32)) rfl ?_
        refine J_goto dX6_looksIn_84 (tgt := 88) (by decide) ?_
        exact J_zret dX6_looksIn_88 rfl (Or.inr rfl) rfl
    · refine JF_ite (fun c19 => ?_) (fun c19 => ?_)
      · refine J_tabIn (3 : Int32) dX6_looksIn_4 (tgt := 91)  c19 (by decide) (by decide) rfl (by decide) ?_
        refine JF_drop [0] ?_
        exact c6_looksIn_b91 h o_h μ _
      · refine JF_ite (fun c20 => ?_) (fun c20 => ?_)
        · refine J_tabIn (4 : Int32) dX6_looksIn_4 (tgt := 44)  c20 (by decide) (by decide) rfl (by decide) ?_
          exact c6_looksIn_b44 h o_h μ _
        · refine JF_ite (fun c21 => ?_) (fun c21 => ?_)
          · refine J_tabIn (5 : Int32) dX6_looksIn_4 (tgt := 89)  c21 (by decide) (by decide) rfl (by decide) ?_
            refine J_iconst dX6_looksIn_89 (v := (0 : Int32)) rfl ?_
            exact J_zret dX6_looksIn_90 rfl (Or.inl rfl) rfl
          · refine JF_ite (fun c22 => ?_) (fun c22 => ?_)
            · refine J_tabIn (6 : Int32) dX6_looksIn_4 (tgt := 91)  c22 (by decide) (by decide) rfl (by decide) ?_
              refine JF_drop [0] ?_
              exact c6_looksIn_b91 h o_h μ _
            · refine J_tabOut dX6_looksIn_4 (tgt := 103) (by have z0 := lv_neT c15 (k := (1 : Int32)) (a := 1) rfl; have z1 := lv_neT c16 (k := (2 : Int32)) (a := 2) rfl; have z2 := lv_neT c19 (k := (3 : Int32)) (a := 3) rfl; have z3 := lv_neT c20 (k := (4 : Int32)) (a := 4) rfl; have z4 := lv_neT c21 (k := (5 : Int32)) (a := 5) rfl; have z5 := lv_neT c22 (k := (6 : Int32)) (a := 6) rfl; omega) (by decide) ?_
              refine J_iconst dX6_looksIn_103 (v := (1 : Int32)) rfl ?_
              exact J_zret dX6_looksIn_104 rfl (Or.inr rfl) rfl
set_option maxRecDepth 20000 in
theorem c6_wages (h : Nat) (a1 : Int32) (μ : JMu) : ∀ b, f6_wages h a1 μ = some b → JC m6_wages 0 cPl [.ref h, .int (a1)] μ (some (.int b), μ) := by
  refine JC_of (emb := (fun b : Int32 => (some (.int b), μ))) (L0 := [some (.ref h), some (.int (a1))]) sm6_wages (Nat.le_of_ble_eq_true rfl) rfl ?_
  unfold f6_wages
  refine JF_chk (fun o_h => ?_)
  refine J_aload_n dX6_wages_0 rfl ?_
  refine J_getI dX6_wages_1 wX6_9 rfl o_h ?_
  refine JF_ite (fun c7 => ?_) (fun c7 => ?_)
  · refine J_tabIn (1 : Int32) dX6_wages_4 (tgt := 44)  c7 (by decide) (by decide) rfl (by decide) ?_
    refine J_bipush dX6_wages_44 (v := (9 : Int32)) rfl ?_
    exact J_iret dX6_wages_46 rfl rfl
  · refine JF_ite (fun c8 => ?_) (fun c8 => ?_)
    · refine J_tabIn (2 : Int32) dX6_wages_4 (tgt := 53)  c8 (by decide) (by decide) rfl (by decide) ?_
      refine J_iconst dX6_wages_53 (v := (5 : Int32)) rfl ?_
      exact J_iret dX6_wages_54 rfl rfl
    · refine JF_ite (fun c9 => ?_) (fun c9 => ?_)
      · refine J_tabIn (3 : Int32) dX6_wages_4 (tgt := 47)  c9 (by decide) (by decide) rfl (by decide) ?_
        refine J_iconst dX6_wages_47 (v := (2 : Int32)) rfl ?_
        refine J_iload_n dX6_wages_48 rfl ?_
        refine J_imul dX6_wages_49 ?_
        exact J_iret dX6_wages_50 rfl rfl
      · refine JF_ite (fun c10 => ?_) (fun c10 => ?_)
        · refine J_tabIn (4 : Int32) dX6_wages_4 (tgt := 44)  c10 (by decide) (by decide) rfl (by decide) ?_
          refine J_bipush dX6_wages_44 (v := (9 : Int32)) rfl ?_
          exact J_iret dX6_wages_46 rfl rfl
        · refine JF_ite (fun c11 => ?_) (fun c11 => ?_)
          · refine J_tabIn (5 : Int32) dX6_wages_4 (tgt := 51)  c11 (by decide) (by decide) rfl (by decide) ?_
            refine J_iconst dX6_wages_51 (v := (0 : Int32)) rfl ?_
            exact J_iret dX6_wages_52 rfl rfl
          · refine JF_ite (fun c12 => ?_) (fun c12 => ?_)
            · refine J_tabIn (6 : Int32) dX6_wages_4 (tgt := 47)  c12 (by decide) (by decide) rfl (by decide) ?_
              refine J_iconst dX6_wages_47 (v := (2 : Int32)) rfl ?_
              refine J_iload_n dX6_wages_48 rfl ?_
              refine J_imul dX6_wages_49 ?_
              exact J_iret dX6_wages_50 rfl rfl
            · refine J_tabOut dX6_wages_4 (tgt := 53) (by have z0 := lv_neT c7 (k := (1 : Int32)) (a := 1) rfl; have z1 := lv_neT c8 (k := (2 : Int32)) (a := 2) rfl; have z2 := lv_neT c9 (k := (3 : Int32)) (a := 3) rfl; have z3 := lv_neT c10 (k := (4 : Int32)) (a := 4) rfl; have z4 := lv_neT c11 (k := (5 : Int32)) (a := 5) rfl; have z5 := lv_neT c12 (k := (6 : Int32)) (a := 6) rfl; omega) (by decide) ?_
              refine J_iconst dX6_wages_53 (v := (5 : Int32)) rfl ?_
              exact J_iret dX6_wages_54 rfl rfl
set_option maxRecDepth 20000 in
theorem c6_earn (h : Nat) (a1 : Int32) (a2 : Int32) (μ : JMu) : ∀ b, f6_earn h a1 a2 μ = some b → JC m6_earn 2 cPl [.ref h, .int (a1), .int (a2)] μ (none, b) := by
  refine JC_of (emb := (fun b : JMu => (none, b))) (L0 := [some (.ref h), some (.int (a1)), some (.int (a2)), none]) sm6_earn (Nat.le_of_ble_eq_true rfl) rfl ?_
  unfold f6_earn
  refine JF_chk (fun o_h => ?_)
  refine J_aload_n dX6_earn_0 rfl ?_
  refine J_getI dX6_earn_1 wX6_18 rfl o_h ?_
  refine J_iload_n dX6_earn_4 rfl ?_
  refine J_iand dX6_earn_5 ?_
  refine J_istore_n dX6_earn_6  (by decide) rfl ?_
  refine J_iload_n dX6_earn_7 rfl ?_
  refine J_if_eq dX6_earn_8 (tgt := 19) (by decide) (fun c6 => ?_) (fun c6 => ?_)
  · exact J_vret dX6_earn_19 rfl rfl
  · refine J_aload_n dX6_earn_11 rfl ?_
    refine J_iload_n dX6_earn_12 rfl ?_
    refine J_callV_i (M' := m6_looksIn) (as := [_]) dX6_earn_13 lX6_32 sm6_looksIn sm6_looksIn_w o_h hci_X6 (by decide) rfl (Nat.le_of_ble_eq_true rfl) (c6_looksIn _ _ _) (fun r7 => ?_)
    refine J_if_ne dX6_earn_16 (tgt := 20) (by decide) (fun c8 => ?_) (fun c8 => ?_)
    · exact J_vret dX6_earn_19 rfl rfl
    · refine J_aload_n dX6_earn_20 rfl ?_
      refine J_sipush dX6_earn_21 (v := (9999 : Int32)) rfl ?_
      refine J_aload_n dX6_earn_24 rfl ?_
      refine J_getI dX6_earn_25 wX6_21 rfl o_h ?_
      refine J_aload_n dX6_earn_28 rfl ?_
      refine J_iload_n dX6_earn_29 rfl ?_
      refine J_callS_i (M' := mj6_bitCount_0f7a4) (as := [_]) dX6_earn_30 lX6_36 smj6_bitCount_0f7a4 smj6_bitCount_0f7a4_w (by decide) rfl (Nat.le_of_ble_eq_true rfl) (cj6_bitCount_0f7a4 cPl _ _) (fun r9 => ?_)
      refine J_callV_i (M' := m6_wages) (as := [_]) dX6_earn_33 lX6_41 sm6_wages sm6_wages_w o_h hci_X6 (by decide) rfl (Nat.le_of_ble_eq_true rfl) (c6_wages _ _ _) (fun r10 => ?_)
      refine J_iadd dX6_earn_36 ?_
      refine J_min dX6_earn_37 lX6_44 wm_min_s wm_i wm_min_c (by decide) (Nat.le_of_ble_eq_true rfl) ?_
      refine J_putI dX6_earn_40 wX6_21 rfl o_h ?_
      exact J_vret dX6_earn_43 rfl rfl
set_option maxRecDepth 20000 in
theorem c0_earnAll_b11 (h : Nat) (o_h : jO cPl h 0 = true) (n : Nat) : ∀ (v1 : Int32) (v2 : Int32) (μ : JMu), JF m0_earnAll 4 cPl (fun b : JMu => (none, b)) 11 [some (.ref h), some (.int (v1)), some (.int (v2)), none] [] μ (f0_earnAll_b11 h n v1 v2 μ) := by
  induction n with
  | zero => intros; exact JF_none
  | succ n ih =>
    intro v1 v2 μ
    rw [f0_earnAll_b11]
    refine J_iload_n dX0_earnAll_11 rfl ?_
    refine J_aload_n dX0_earnAll_12 rfl ?_
    refine J_getI dX0_earnAll_13 wX0_50 rfl o_h ?_
    refine J_icmp_ge dX0_earnAll_16 (tgt := 51) (by decide) (fun c8 => ?_) (fun c8 => ?_)
    · exact J_vret dX0_earnAll_51 rfl rfl
    · refine J_aload_n dX0_earnAll_19 rfl ?_
      refine J_iload_n dX0_earnAll_20 rfl ?_
      refine J_callV_q (M' := m0_find) (as := [_]) dX0_earnAll_21 lX0_53 sm0_find sm0_find_w o_h hci_X0 (by decide) rfl (Nat.le_of_ble_eq_true rfl) (c0_find _ _ _) (fun r9 => ?_)
      refine J_astore_nQ dX0_earnAll_24 (x := r9) (by decide) rfl ?_
      refine J_aload_nQ dX0_earnAll_25 (x := r9) rfl ?_
      rcases r9 with _ | p10
      · refine J_ifnull0 dX0_earnAll_26 (tgt := 45) (by decide) ?_
        refine J_iinc dX0_earnAll_45 rfl (c0 := (1 : Int32)) rfl (by decide) rfl ?_
        refine J_goto dX0_earnAll_48 (tgt := 11) (by decide) ?_
        refine JF_drop [3] ?_
        exact ih _ _ _
      · refine J_ifnull1 dX0_earnAll_26 ?_
        refine J_aload_n dX0_earnAll_29 rfl ?_
        refine JF_chk (fun o11 => ?_)
        refine J_getI dX0_earnAll_30 wX0_80 rfl o11 ?_
        refine J_if_ne dX0_earnAll_33 (tgt := 45) (by decide) (fun c12 => ?_) (fun c12 => ?_)
        · refine J_aload_n dX0_earnAll_36 rfl ?_
          refine J_aload_n dX0_earnAll_37 rfl ?_
          refine J_getI dX0_earnAll_38 wX0_44 rfl o_h ?_
          refine J_iload_n dX0_earnAll_41 rfl ?_
          refine J_callV_v (M' := m6_earn) (as := [_, _]) dX0_earnAll_42 lX0_109 sm6_earn sm6_earn_w o11 hci_X6 (by decide) rfl (Nat.le_of_ble_eq_true rfl) (c6_earn _ _ _ _) (fun r13 => ?_)
          refine J_iinc dX0_earnAll_45 rfl (c0 := (1 : Int32)) rfl (by decide) rfl ?_
          refine J_goto dX0_earnAll_48 (tgt := 11) (by decide) ?_
          refine JF_drop [3] ?_
          exact ih _ _ _
        · refine J_iinc dX0_earnAll_45 rfl (c0 := (1 : Int32)) rfl (by decide) rfl ?_
          refine J_goto dX0_earnAll_48 (tgt := 11) (by decide) ?_
          refine JF_drop [3] ?_
          exact ih _ _ _
set_option maxRecDepth 20000 in
theorem c0_earnAll (h : Nat) (μ : JMu) : ∀ b, f0_earnAll h μ = some b → JC m0_earnAll 4 cPl [.ref h] μ (none, b) := by
  refine JC_of (emb := (fun b : JMu => (none, b))) (L0 := [some (.ref h), none, none, none]) sm0_earnAll (Nat.le_of_ble_eq_true rfl) rfl ?_
  unfold f0_earnAll
  refine JF_chk (fun o_h => ?_)
  refine J_aload_n dX0_earnAll_0 rfl ?_
  refine J_aload_n dX0_earnAll_1 rfl ?_
  refine J_getI dX0_earnAll_2 wX0_44 rfl o_h ?_
  refine J_callV_w (M' := m0_seenIn) (as := [_]) dX0_earnAll_5 lX0_106 sm0_seenIn sm0_seenIn_w o_h hci_X0 (by decide) rfl (Nat.le_of_ble_eq_true rfl) (c0_seenIn _ _ _) (fun r14 => ?_)
  refine J_istore_n dX0_earnAll_8  (by decide) rfl ?_
  refine J_iconst dX0_earnAll_9 (v := (0 : Int32)) rfl ?_
  refine J_istore_n dX0_earnAll_10  (by decide) rfl ?_
  exact c0_earnAll_b11 h o_h jN _ _ _
set_option maxRecDepth 20000 in
theorem c6_owesBy_b60 (h : Nat) (o_h : jO cPl h 6 = true) (μ : JMu) (v1 : Int32) : JF m6_owesBy 1 cPl (fun b : Int32 => (some (.int b), μ)) 60 [some (.ref h), some (.int (v1)), none] [] μ (f6_owesBy_b60 h v1 μ) := by
  unfold f6_owesBy_b60
  refine J_iload_n dX6_owesBy_60 rfl ?_
  refine J_aload_n dX6_owesBy_61 rfl ?_
  refine J_getI dX6_owesBy_62 wX6_15 rfl o_h ?_
  refine J_iadd dX6_owesBy_65 ?_
  exact J_iret dX6_owesBy_66 rfl rfl
set_option maxRecDepth 20000 in
theorem c6_owesBy (h : Nat) (a1 : Int32) (a2 : Int32) (μ : JMu) : ∀ b, f6_owesBy h a1 a2 μ = some b → JC m6_owesBy 1 cPl [.ref h, .int (a1), .int (a2)] μ (some (.int b), μ) := by
  refine JC_of (emb := (fun b : Int32 => (some (.int b), μ))) (L0 := [some (.ref h), some (.int (a1)), some (.int (a2))]) sm6_owesBy (Nat.le_of_ble_eq_true rfl) rfl ?_
  unfold f6_owesBy
  refine JF_chk (fun o_h => ?_)
  refine J_aload_n dX6_owesBy_0 rfl ?_
  refine J_getI dX6_owesBy_1 wX6_9 rfl o_h ?_
  refine JF_ite (fun c8 => ?_) (fun c8 => ?_)
  · refine J_tabIn (1 : Int32) dX6_owesBy_4 (tgt := 44)  c8 (by decide) (by decide) rfl (by decide) ?_
    refine J_iload_n dX6_owesBy_44 rfl ?_
    refine J_iconst dX6_owesBy_45 (v := (2 : Int32)) rfl ?_
    refine J_idiv dX6_owesBy_46 (by decide) ?_
    exact J_iret dX6_owesBy_47 rfl rfl
  · refine JF_ite (fun c9 => ?_) (fun c9 => ?_)
    · refine J_tabIn (2 : Int32) dX6_owesBy_4 (tgt := 60)  c9 (by decide) (by decide) rfl (by decide) ?_
      refine JF_drop [2] ?_
      exact c6_owesBy_b60 h o_h μ _
    · refine JF_ite (fun c10 => ?_) (fun c10 => ?_)
      · refine J_tabIn (3 : Int32) dX6_owesBy_4 (tgt := 67)  c10 (by decide) (by decide) rfl (by decide) ?_
        refine J_iload_n dX6_owesBy_67 rfl ?_
        refine J_iload_n dX6_owesBy_68 rfl ?_
        refine J_bipush dX6_owesBy_69 (v := (10 : Int32)) rfl ?_
        refine J_idiv dX6_owesBy_71 (by decide) ?_
        refine J_isub dX6_owesBy_72 ?_
        exact J_iret dX6_owesBy_73 rfl rfl
      · refine JF_ite (fun c11 => ?_) (fun c11 => ?_)
        · refine J_tabIn (4 : Int32) dX6_owesBy_4 (tgt := 48)  c11 (by decide) (by decide) rfl (by decide) ?_
          refine J_iload_n dX6_owesBy_48 rfl ?_
          refine J_iconst dX6_owesBy_49 (v := (2 : Int32)) rfl ?_
          refine J_idiv dX6_owesBy_50 (by decide) ?_
          refine J_iconst dX6_owesBy_51 (v := (1 : Int32)) rfl ?_
          refine J_iconst dX6_owesBy_52 (v := (1 : Int32)) rfl ?_
          refine J_iload_n dX6_owesBy_53 rfl ?_
          refine J_iadd dX6_owesBy_54 ?_
          refine J_max dX6_owesBy_55 lX6_50 wm_max_s wm_i wm_max_c (by decide) (Nat.le_of_ble_eq_true rfl) ?_
          refine JF_chk (fun c12 => ?_)
          refine J_idiv dX6_owesBy_58 c12 ?_
          exact J_iret dX6_owesBy_59 rfl rfl
        · refine JF_ite (fun c13 => ?_) (fun c13 => ?_)
          · refine J_tabIn (5 : Int32) dX6_owesBy_4 (tgt := 60)  c13 (by decide) (by decide) rfl (by decide) ?_
            refine JF_drop [2] ?_
            exact c6_owesBy_b60 h o_h μ _
          · refine JF_ite (fun c14 => ?_) (fun c14 => ?_)
            · refine J_tabIn (6 : Int32) dX6_owesBy_4 (tgt := 74)  c14 (by decide) (by decide) rfl (by decide) ?_
              refine J_iconst dX6_owesBy_74 (v := (0 : Int32)) rfl ?_
              refine J_iload_n dX6_owesBy_75 rfl ?_
              refine J_iload_n dX6_owesBy_76 rfl ?_
              refine J_bipush dX6_owesBy_77 (v := (10 : Int32)) rfl ?_
              refine J_idiv dX6_owesBy_79 (by decide) ?_
              refine J_isub dX6_owesBy_80 ?_
              refine J_aload_n dX6_owesBy_81 rfl ?_
              refine J_getI dX6_owesBy_82 wX6_15 rfl o_h ?_
              refine J_isub dX6_owesBy_85 ?_
              refine J_max dX6_owesBy_86 lX6_50 wm_max_s wm_i wm_max_c (by decide) (Nat.le_of_ble_eq_true rfl) ?_
              exact J_iret dX6_owesBy_89 rfl rfl
            · refine J_tabOut dX6_owesBy_4 (tgt := 90) (by have z0 := lv_neT c8 (k := (1 : Int32)) (a := 1) rfl; have z1 := lv_neT c9 (k := (2 : Int32)) (a := 2) rfl; have z2 := lv_neT c10 (k := (3 : Int32)) (a := 3) rfl; have z3 := lv_neT c11 (k := (4 : Int32)) (a := 4) rfl; have z4 := lv_neT c13 (k := (5 : Int32)) (a := 5) rfl; have z5 := lv_neT c14 (k := (6 : Int32)) (a := 6) rfl; omega) (by decide) ?_
              refine J_iload_n dX6_owesBy_90 rfl ?_
              exact J_iret dX6_owesBy_91 rfl rfl
set_option maxRecDepth 20000 in
theorem c6_pay (h : Nat) (a1 : Int32) (μ : JMu) : ∀ b, f6_pay h a1 μ = some b → JC m6_pay 1 cPl [.ref h, .int (a1)] μ (none, b) := by
  refine JC_of (emb := (fun b : JMu => (none, b))) (L0 := [some (.ref h), some (.int (a1))]) sm6_pay (Nat.le_of_ble_eq_true rfl) rfl ?_
  unfold f6_pay
  refine JF_chk (fun o_h => ?_)
  refine J_aload_n dX6_pay_0 rfl ?_
  refine J_sipush dX6_pay_1 (v := (-9999 : Int32)) rfl ?_
  refine J_aload_n dX6_pay_4 rfl ?_
  refine J_getI dX6_pay_5 wX6_21 rfl o_h ?_
  refine J_iload_n dX6_pay_8 rfl ?_
  refine J_isub dX6_pay_9 ?_
  refine J_max dX6_pay_10 lX6_50 wm_max_s wm_i wm_max_c (by decide) (Nat.le_of_ble_eq_true rfl) ?_
  refine J_putI dX6_pay_13 wX6_21 rfl o_h ?_
  refine J_aload_n dX6_pay_16 rfl ?_
  refine J_getI dX6_pay_17 wX6_21 rfl o_h ?_
  refine J_if_ge dX6_pay_20 (tgt := 33) (by decide) (fun c2 => ?_) (fun c2 => ?_)
  · exact J_vret dX6_pay_33 rfl rfl
  · refine J_aload_n dX6_pay_23 rfl ?_
    refine J_iconst dX6_pay_24 (v := (1 : Int32)) rfl ?_
    refine J_putZ dX6_pay_25 wX6_24 rfl o_h (Or.inr rfl) ?_
    refine J_aload_n dX6_pay_28 rfl ?_
    refine J_iconst dX6_pay_29 (v := (0 : Int32)) rfl ?_
    refine J_putI dX6_pay_30 wX6_18 rfl o_h ?_
    exact J_vret dX6_pay_33 rfl rfl
set_option maxRecDepth 20000 in
theorem c0_payAll_b2 (h : Nat) (o_h : jO cPl h 0 = true) (n : Nat) : ∀ (v1 : Int32) (μ : JMu), JF m0_payAll 4 cPl (fun b : JMu => (none, b)) 2 [some (.ref h), some (.int (v1)), none] [] μ (f0_payAll_b2 h n v1 μ) := by
  induction n with
  | zero => intros; exact JF_none
  | succ n ih =>
    intro v1 μ
    rw [f0_payAll_b2]
    refine J_iload_n dX0_payAll_2 rfl ?_
    refine J_aload_n dX0_payAll_3 rfl ?_
    refine J_getI dX0_payAll_4 wX0_50 rfl o_h ?_
    refine J_icmp_ge dX0_payAll_7 (tgt := 54) (by decide) (fun c10 => ?_) (fun c10 => ?_)
    · exact J_vret dX0_payAll_54 rfl rfl
    · refine J_aload_n dX0_payAll_10 rfl ?_
      refine J_iload_n dX0_payAll_11 rfl ?_
      refine J_callV_q (M' := m0_find) (as := [_]) dX0_payAll_12 lX0_53 sm0_find sm0_find_w o_h hci_X0 (by decide) rfl (Nat.le_of_ble_eq_true rfl) (c0_find _ _ _) (fun r11 => ?_)
      refine J_astore_nQ dX0_payAll_15 (x := r11) (by decide) rfl ?_
      refine J_aload_nQ dX0_payAll_16 (x := r11) rfl ?_
      rcases r11 with _ | p12
      · refine J_ifnull0 dX0_payAll_17 (tgt := 48) (by decide) ?_
        refine J_iinc dX0_payAll_48 rfl (c0 := (1 : Int32)) rfl (by decide) rfl ?_
        refine J_goto dX0_payAll_51 (tgt := 2) (by decide) ?_
        refine JF_drop [2] ?_
        exact ih _ _
      · refine J_ifnull1 dX0_payAll_17 ?_
        refine J_aload_n dX0_payAll_20 rfl ?_
        refine JF_chk (fun o13 => ?_)
        refine J_getI dX0_payAll_21 wX0_80 rfl o13 ?_
        refine J_if_ne dX0_payAll_24 (tgt := 48) (by decide) (fun c14 => ?_) (fun c14 => ?_)
        · refine J_aload_n dX0_payAll_27 rfl ?_
          refine J_aload_n dX0_payAll_28 rfl ?_
          refine J_aload_n dX0_payAll_29 rfl ?_
          refine J_aload_n dX0_payAll_30 rfl ?_
          refine J_getI dX0_payAll_31 wX0_74 rfl o13 ?_
          refine J_callV_w (M' := m0_rentTogether) (as := [_]) dX0_payAll_34 lX0_113 sm0_rentTogether sm0_rentTogether_w o_h hci_X0 (by decide) rfl (Nat.le_of_ble_eq_true rfl) (c0_rentTogether _ _ _) (fun r15 => ?_)
          refine J_aload_n dX0_payAll_37 rfl ?_
          refine J_iload_n dX0_payAll_38 rfl ?_
          refine J_callV_i (M' := m0_sharersWith) (as := [_]) dX0_payAll_39 lX0_116 sm0_sharersWith sm0_sharersWith_w o_h hci_X0 (by decide) rfl (Nat.le_of_ble_eq_true rfl) (c0_sharersWith _ _ _) (fun r16 => ?_)
          refine J_callV_i (M' := m6_owesBy) (as := [_, _]) dX0_payAll_42 lX0_119 sm6_owesBy sm6_owesBy_w o13 hci_X6 (by decide) rfl (Nat.le_of_ble_eq_true rfl) (c6_owesBy _ _ _ _) (fun r17 => ?_)
          refine J_callV_v (M' := m6_pay) (as := [_]) dX0_payAll_45 lX0_123 sm6_pay sm6_pay_w o13 hci_X6 (by decide) rfl (Nat.le_of_ble_eq_true rfl) (c6_pay _ _ _) (fun r18 => ?_)
          refine J_iinc dX0_payAll_48 rfl (c0 := (1 : Int32)) rfl (by decide) rfl ?_
          refine J_goto dX0_payAll_51 (tgt := 2) (by decide) ?_
          refine JF_drop [2] ?_
          exact ih _ _
        · refine J_iinc dX0_payAll_48 rfl (c0 := (1 : Int32)) rfl (by decide) rfl ?_
          refine J_goto dX0_payAll_51 (tgt := 2) (by decide) ?_
          refine JF_drop [2] ?_
          exact ih _ _
set_option maxRecDepth 20000 in
theorem c0_payAll (h : Nat) (μ : JMu) : ∀ b, f0_payAll h μ = some b → JC m0_payAll 4 cPl [.ref h] μ (none, b) := by
  refine JC_of (emb := (fun b : JMu => (none, b))) (L0 := [some (.ref h), none, none]) sm0_payAll (Nat.le_of_ble_eq_true rfl) rfl ?_
  unfold f0_payAll
  refine JF_chk (fun o_h => ?_)
  refine J_iconst dX0_payAll_0 (v := (0 : Int32)) rfl ?_
  refine J_istore_n dX0_payAll_1  (by decide) rfl ?_
  exact c0_payAll_b2 h o_h jN _ _
set_option maxRecDepth 20000 in
theorem c0_passNights_b2 (h : Nat) (o_h : jO cPl h 0 = true) (n : Nat) : ∀ (v1 : Int32) (v2 : Int32) (μ : JMu), JF m0_passNights 5 cPl (fun b : JMu => (none, b)) 2 [some (.ref h), some (.int (v1)), some (.int (v2))] [] μ (f0_passNights_b2 h n v1 v2 μ) := by
  induction n with
  | zero => intros; exact JF_none
  | succ n ih =>
    intro v1 v2 μ
    rw [f0_passNights_b2]
    refine J_iload_n dX0_passNights_2 rfl ?_
    refine J_iload_n dX0_passNights_3 rfl ?_
    refine J_icmp_ge dX0_passNights_4 (tgt := 40) (by decide) (fun c5 => ?_) (fun c5 => ?_)
    · exact J_vret dX0_passNights_40 rfl rfl
    · refine J_aload_n dX0_passNights_7 rfl ?_
      refine J_callV_v (M' := m0_earnAll) (as := []) dX0_passNights_8 lX0_100 sm0_earnAll sm0_earnAll_w o_h hci_X0 (by decide) rfl (Nat.le_of_ble_eq_true rfl) (c0_earnAll _ _) (fun r6 => ?_)
      refine J_aload_n dX0_passNights_11 rfl ?_
      refine J_dup dX0_passNights_12 rfl ?_
      refine J_getI dX0_passNights_13 wX0_44 rfl o_h ?_
      refine J_iconst dX0_passNights_16 (v := (1 : Int32)) rfl ?_
      refine J_iadd dX0_passNights_17 ?_
      refine J_putI dX0_passNights_18 wX0_44 rfl o_h ?_
      refine J_aload_n dX0_passNights_21 rfl ?_
      refine J_getI dX0_passNights_22 wX0_44 rfl o_h ?_
      refine J_iconst dX0_passNights_25 (v := (4 : Int32)) rfl ?_
      refine J_irem dX0_passNights_26 (by decide) ?_
      refine J_if_ne dX0_passNights_27 (tgt := 34) (by decide) (fun c7 => ?_) (fun c7 => ?_)
      · refine J_aload_n dX0_passNights_30 rfl ?_
        refine J_callV_v (M' := m0_payAll) (as := []) dX0_passNights_31 lX0_103 sm0_payAll sm0_payAll_w o_h hci_X0 (by decide) rfl (Nat.le_of_ble_eq_true rfl) (c0_payAll _ _) (fun r8 => ?_)
        refine J_iinc dX0_passNights_34 rfl (c0 := (1 : Int32)) rfl (by decide) rfl ?_
        refine J_goto dX0_passNights_37 (tgt := 2) (by decide) ?_
        exact ih _ _ _
      · refine J_iinc dX0_passNights_34 rfl (c0 := (1 : Int32)) rfl (by decide) rfl ?_
        refine J_goto dX0_passNights_37 (tgt := 2) (by decide) ?_
        exact ih _ _ _
set_option maxRecDepth 20000 in
theorem c0_passNights (h : Nat) (a1 : Int32) (μ : JMu) : ∀ b, f0_passNights h a1 μ = some b → JC m0_passNights 5 cPl [.ref h, .int (a1)] μ (none, b) := by
  refine JC_of (emb := (fun b : JMu => (none, b))) (L0 := [some (.ref h), some (.int (a1)), none]) sm0_passNights (Nat.le_of_ble_eq_true rfl) rfl ?_
  unfold f0_passNights
  refine JF_chk (fun o_h => ?_)
  refine J_iconst dX0_passNights_0 (v := (0 : Int32)) rfl ?_
  refine J_istore_n dX0_passNights_1  (by decide) rfl ?_
  exact c0_passNights_b2 h o_h jN _ _ _
set_option maxRecDepth 20000 in
theorem c0_draw (h : Nat) (μ : JMu) : ∀ b, f0_draw h μ = some b → JC m0_draw 0 cPl [.ref h] μ (some (.int b.1), b.2) := by
  refine JC_of (emb := (fun b : Int32 × JMu => (some (.int b.1), b.2))) (L0 := [some (.ref h)]) sm0_draw (Nat.le_of_ble_eq_true rfl) rfl ?_
  unfold f0_draw
  refine JF_chk (fun o_h => ?_)
  refine J_aload_n dX0_draw_0 rfl ?_
  refine J_aload_n dX0_draw_1 rfl ?_
  refine J_getI dX0_draw_2 wX0_9 rfl o_h ?_
  refine J_ldc dX0_draw_5 kX0_126 ?_
  refine J_imul dX0_draw_7 ?_
  refine J_sipush dX0_draw_8 (v := (12345 : Int32)) rfl ?_
  refine J_iadd dX0_draw_11 ?_
  refine J_putI dX0_draw_12 wX0_9 rfl o_h ?_
  refine J_aload_n dX0_draw_15 rfl ?_
  refine J_getI dX0_draw_16 wX0_9 rfl o_h ?_
  refine J_bipush dX0_draw_19 (v := (8 : Int32)) rfl ?_
  refine J_iushr dX0_draw_21 ?_
  exact J_iret dX0_draw_22 rfl rfl
set_option maxRecDepth 20000 in
theorem c0_drawNight (h : Nat) (μ : JMu) : ∀ b, f0_drawNight h μ = some b → JC m0_drawNight 1 cPl [.ref h] μ (none, b) := by
  refine JC_of (emb := (fun b : JMu => (none, b))) (L0 := [some (.ref h), none, none, none]) sm0_drawNight (Nat.le_of_ble_eq_true rfl) rfl ?_
  unfold f0_drawNight
  refine JF_chk (fun o_h => ?_)
  refine J_aload_n dX0_drawNight_0 rfl ?_
  refine J_aload_n dX0_drawNight_1 rfl ?_
  refine J_callV_w (M' := m0_draw) (as := []) dX0_drawNight_2 lX0_127 sm0_draw sm0_draw_w o_h hci_X0 (by decide) rfl (Nat.le_of_ble_eq_true rfl) (c0_draw _ _) (fun r10 => ?_)
  refine J_bipush dX0_drawNight_5 (v := (10 : Int32)) rfl ?_
  refine J_irem dX0_drawNight_7 (by decide) ?_
  refine J_putI dX0_drawNight_8 wX0_47 rfl o_h ?_
  refine J_aload_n dX0_drawNight_11 rfl ?_
  refine J_getI dX0_drawNight_12 wX0_50 rfl o_h ?_
  refine J_iconst dX0_drawNight_15 (v := (1 : Int32)) rfl ?_
  refine J_icmp_ge dX0_drawNight_16 (tgt := 20) (by decide) (fun c11 => ?_) (fun c11 => ?_)
  · refine J_aload_n dX0_drawNight_20 rfl ?_
    refine J_callV_w (M' := m0_draw) (as := []) dX0_drawNight_21 lX0_127 sm0_draw sm0_draw_w o_h hci_X0 (by decide) rfl (Nat.le_of_ble_eq_true rfl) (c0_draw _ _) (fun r12 => ?_)
    refine J_aload_n dX0_drawNight_24 rfl ?_
    refine J_getI dX0_drawNight_25 wX0_50 rfl o_h ?_
    refine JF_chk (fun c13 => ?_)
    refine J_irem dX0_drawNight_28 c13 ?_
    refine J_istore_n dX0_drawNight_29  (by decide) rfl ?_
    refine J_aload_n dX0_drawNight_30 rfl ?_
    refine J_callV_w (M' := m0_draw) (as := []) dX0_drawNight_31 lX0_127 sm0_draw sm0_draw_w o_h hci_X0 (by decide) rfl (Nat.le_of_ble_eq_true rfl) (c0_draw _ _) (fun r14 => ?_)
    refine J_bipush dX0_drawNight_34 (v := (24 : Int32)) rfl ?_
    refine J_irem dX0_drawNight_36 (by decide) ?_
    refine J_istore_n dX0_drawNight_37  (by decide) rfl ?_
    refine J_aload_n dX0_drawNight_38 rfl ?_
    refine J_iload_n dX0_drawNight_39 rfl ?_
    refine J_callV_q (M' := m0_find) (as := [_]) dX0_drawNight_40 lX0_53 sm0_find sm0_find_w o_h hci_X0 (by decide) rfl (Nat.le_of_ble_eq_true rfl) (c0_find _ _ _) (fun r15 => ?_)
    refine J_astore_nQ dX0_drawNight_43 (x := r15) (by decide) rfl ?_
    refine J_aload_nQ dX0_drawNight_44 (x := r15) rfl ?_
    rcases r15 with _ | p16
    · refine J_ifnull0 dX0_drawNight_45 (tgt := 67) (by decide) ?_
      exact J_vret dX0_drawNight_67 rfl rfl
    · refine J_ifnull1 dX0_drawNight_45 ?_
      refine J_aload_n dX0_drawNight_48 rfl ?_
      refine JF_chk (fun o17 => ?_)
      refine J_getI dX0_drawNight_49 wX0_80 rfl o17 ?_
      refine J_if_ne dX0_drawNight_52 (tgt := 67) (by decide) (fun c18 => ?_) (fun c18 => ?_)
      · refine J_aload_n dX0_drawNight_55 rfl ?_
        refine J_dup dX0_drawNight_56 rfl ?_
        refine J_getI dX0_drawNight_57 wX0_74 rfl o17 ?_
        refine J_iconst dX0_drawNight_60 (v := (1 : Int32)) rfl ?_
        refine J_iload_n dX0_drawNight_61 rfl ?_
        refine J_ishl dX0_drawNight_62 ?_
        refine J_ior dX0_drawNight_63 ?_
        refine J_putI dX0_drawNight_64 wX0_74 rfl o17 ?_
        exact J_vret dX0_drawNight_67 rfl rfl
      · exact J_vret dX0_drawNight_67 rfl rfl
  · exact J_vret dX0_drawNight_19 rfl rfl
set_option maxRecDepth 20000 in
theorem c8_isUnder_b4 (μ : JMu) (n : Nat) : ∀ (v1 : Int32) (v2 : Int32) (v3 : Int32), JF m8_isUnder 0 cPl (fun b : Int32 => (some (.int b), μ)) 4 [none, some (.int (v1)), some (.int (v2)), some (.int (v3))] [] μ (f8_isUnder_b4 n v1 v2 v3) := by
  induction n with
  | zero => intros; exact JF_none
  | succ n ih =>
    intro v1 v2 v3
    rw [f8_isUnder_b4]
    refine J_iload_n dX8_isUnder_4 rfl ?_
    refine J_getsA dX8_isUnder_5 gX8_123 ?_
    refine J_alenA dX8_isUnder_8 ?_
    refine J_icmp_ge dX8_isUnder_9 (tgt := 43) (by decide) (fun c6 => ?_) (fun c6 => ?_)
    · refine J_iconst dX8_isUnder_43 (v := (0 : Int32)) rfl ?_
      exact J_zret dX8_isUnder_44 rfl (Or.inl rfl) rfl
    · refine J_iload_n dX8_isUnder_12 rfl ?_
      refine J_if_lt dX8_isUnder_13 (tgt := 43) (by decide) (fun c7 => ?_) (fun c7 => ?_)
      · refine J_iconst dX8_isUnder_43 (v := (0 : Int32)) rfl ?_
        exact J_zret dX8_isUnder_44 rfl (Or.inl rfl) rfl
      · refine J_iload_n dX8_isUnder_16 rfl ?_
        refine J_getsA dX8_isUnder_17 gX8_123 ?_
        refine J_alenA dX8_isUnder_20 ?_
        refine J_icmp_ge dX8_isUnder_21 (tgt := 43) (by decide) (fun c8 => ?_) (fun c8 => ?_)
        · refine J_iconst dX8_isUnder_43 (v := (0 : Int32)) rfl ?_
          exact J_zret dX8_isUnder_44 rfl (Or.inl rfl) rfl
        · refine J_iload_n dX8_isUnder_24 rfl ?_
          refine J_iload_n dX8_isUnder_25 rfl ?_
          refine J_icmp_ne dX8_isUnder_26 (tgt := 31) (by decide) (fun c9 => ?_) (fun c9 => ?_)
          · refine J_iconst dX8_isUnder_29 (v := (1 : Int32)) rfl ?_
            exact J_zret dX8_isUnder_30 rfl (Or.inr rfl) rfl
          · refine J_getsA dX8_isUnder_31 gX8_123 ?_
            refine J_iload_n dX8_isUnder_34 rfl ?_
            refine JF_chk (fun c10 => ?_)
            refine J_ialdA dX8_isUnder_35 (jin_spec c10) ?_
            refine J_istore_n dX8_isUnder_36  (by decide) rfl ?_
            refine J_iinc dX8_isUnder_37 rfl (c0 := (1 : Int32)) rfl (by decide) rfl ?_
            refine J_goto dX8_isUnder_40 (tgt := 4) (by decide) ?_
            exact ih _ _ _
set_option maxRecDepth 20000 in
theorem c8_isUnder (a1 : Int32) (a2 : Int32) (μ : JMu) : ∀ b, f8_isUnder a1 a2 = some b → JC m8_isUnder 0 cPl [.int (a1), .int (a2)] μ (some (.int b), μ) := by
  refine JC_of (emb := (fun b : Int32 => (some (.int b), μ))) (L0 := [some (.int (a1)), some (.int (a2)), none, none]) sm8_isUnder (Nat.le_of_ble_eq_true rfl) rfl ?_
  unfold f8_isUnder
  refine J_iload_n dX8_isUnder_0 rfl ?_
  refine J_istore_n dX8_isUnder_1  (by decide) rfl ?_
  refine J_iconst dX8_isUnder_2 (v := (0 : Int32)) rfl ?_
  refine J_istore_n dX8_isUnder_3  (by decide) rfl ?_
  refine JF_drop [0] ?_
  exact c8_isUnder_b4 μ jN _ _ _
set_option maxRecDepth 20000 in
theorem c0_clashersWith_b81 (h : Nat) (o_h : jO cPl h 0 = true) (μ : JMu) (k17 : Int32 → Nat → Int32 → Int32 → JMu → Option (Int32)) (hk17 : ∀ (v1 : Int32) (v2 : Nat) (v3 : Int32) (v4 : Int32), JF m0_clashersWith 1 cPl (fun b : Int32 => (some (.int b), μ)) 17 [some (.ref h), some (.int (v1)), some (.ref v2), some (.int (v3)), some (.int (v4)), none] [] μ (k17 v1 v2 v3 v4 μ)) (v1 : Int32) (v2 : Nat) (v3 : Int32) (v4 : Int32) : JF m0_clashersWith 1 cPl (fun b : Int32 => (some (.int b), μ)) 81 [some (.ref h), some (.int (v1)), some (.ref v2), some (.int (v3)), some (.int (v4)), none] [] μ (f0_clashersWith_b81 h k17 v1 v2 v3 v4 μ) := by
  unfold f0_clashersWith_b81
  refine J_iload_n dX0_clashersWith_81 rfl ?_
  refine J_iconst dX0_clashersWith_82 (v := (1 : Int32)) rfl ?_
  refine J_iload dX0_clashersWith_83 rfl ?_
  refine J_ishl dX0_clashersWith_85 ?_
  refine J_ior dX0_clashersWith_86 ?_
  refine J_istore_n dX0_clashersWith_87  (by decide) rfl ?_
  refine J_iinc dX0_clashersWith_88 rfl (c0 := (1 : Int32)) rfl (by decide) rfl ?_
  refine J_goto dX0_clashersWith_91 (tgt := 17) (by decide) ?_
  exact hk17 _ _ _ _
set_option maxRecDepth 20000 in
theorem c0_clashersWith_b17 (h : Nat) (o_h : jO cPl h 0 = true) (μ : JMu) (n : Nat) : ∀ (v1 : Int32) (v2 : Nat) (v3 : Int32) (v4 : Int32), JF m0_clashersWith 1 cPl (fun b : Int32 => (some (.int b), μ)) 17 [some (.ref h), some (.int (v1)), some (.ref v2), some (.int (v3)), some (.int (v4)), none] [] μ (f0_clashersWith_b17 h n v1 v2 v3 v4 μ) := by
  induction n with
  | zero => intros; exact JF_none
  | succ n ih =>
    intro v1 v2 v3 v4
    rw [f0_clashersWith_b17]
    refine J_iload dX0_clashersWith_17 rfl ?_
    refine J_aload_n dX0_clashersWith_19 rfl ?_
    refine J_getI dX0_clashersWith_20 wX0_50 rfl o_h ?_
    refine J_icmp_ge dX0_clashersWith_23 (tgt := 94) (by decide) (fun c14 => ?_) (fun c14 => ?_)
    · refine J_iload_n dX0_clashersWith_94 rfl ?_
      exact J_iret dX0_clashersWith_95 rfl rfl
    · refine J_aload_n dX0_clashersWith_26 rfl ?_
      refine J_iload dX0_clashersWith_27 rfl ?_
      refine J_callV_q (M' := m0_find) (as := [_]) dX0_clashersWith_29 lX0_53 sm0_find sm0_find_w o_h hci_X0 (by decide) rfl (Nat.le_of_ble_eq_true rfl) (c0_find _ _ _) (fun r15 => ?_)
      refine J_astoreQ dX0_clashersWith_32 (x := r15) (by decide) rfl ?_
      refine J_aloadQ dX0_clashersWith_34 (x := r15) rfl ?_
      rcases r15 with _ | p16
      · refine J_ifnull0 dX0_clashersWith_36 (tgt := 88) (by decide) ?_
        refine J_iinc dX0_clashersWith_88 rfl (c0 := (1 : Int32)) rfl (by decide) rfl ?_
        refine J_goto dX0_clashersWith_91 (tgt := 17) (by decide) ?_
        refine JF_drop [5] ?_
        exact ih _ _ _ _
      · refine J_ifnull1 dX0_clashersWith_36 ?_
        refine J_iload dX0_clashersWith_39 rfl ?_
        refine J_iload_n dX0_clashersWith_41 rfl ?_
        refine J_icmp_eq dX0_clashersWith_42 (tgt := 88) (by decide) (fun c17 => ?_) (fun c17 => ?_)
        · refine J_iinc dX0_clashersWith_88 rfl (c0 := (1 : Int32)) rfl (by decide) rfl ?_
          refine J_goto dX0_clashersWith_91 (tgt := 17) (by decide) ?_
          refine JF_drop [5] ?_
          exact ih _ _ _ _
        · refine J_aload_n dX0_clashersWith_45 rfl ?_
          refine JF_chk (fun o18 => ?_)
          refine J_getI dX0_clashersWith_46 wX0_74 rfl o18 ?_
          refine J_aload dX0_clashersWith_49 rfl ?_
          refine JF_chk (fun o19 => ?_)
          refine J_getI dX0_clashersWith_51 wX0_74 rfl o19 ?_
          refine J_iand dX0_clashersWith_54 ?_
          refine J_if_eq dX0_clashersWith_55 (tgt := 88) (by decide) (fun c20 => ?_) (fun c20 => ?_)
          · refine J_iinc dX0_clashersWith_88 rfl (c0 := (1 : Int32)) rfl (by decide) rfl ?_
            refine J_goto dX0_clashersWith_91 (tgt := 17) (by decide) ?_
            refine JF_drop [5] ?_
            exact ih _ _ _ _
          · refine J_aload_n dX0_clashersWith_58 rfl ?_
            refine J_getI dX0_clashersWith_59 wX0_68 rfl o18 ?_
            refine J_iconst dX0_clashersWith_62 (v := (4 : Int32)) rfl ?_
            refine J_callSN_i (M' := m8_isUnder) (as := [_, _]) dX0_clashersWith_63 lX0_131 sm8_isUnder sm8_isUnder_w (by decide) rfl (Nat.le_of_ble_eq_true rfl) (c8_isUnder _ _ _) (fun r21 => ?_)
            refine J_if_eq dX0_clashersWith_66 (tgt := 81) (by decide) (fun c22 => ?_) (fun c22 => ?_)
            · refine JF_drop [5] ?_
              exact c0_clashersWith_b81 h o_h μ _ ih _ _ _ _
            · refine J_aload dX0_clashersWith_69 rfl ?_
              refine J_getI dX0_clashersWith_71 wX0_68 rfl o19 ?_
              refine J_iconst dX0_clashersWith_74 (v := (4 : Int32)) rfl ?_
              refine J_callSN_i (M' := m8_isUnder) (as := [_, _]) dX0_clashersWith_75 lX0_131 sm8_isUnder sm8_isUnder_w (by decide) rfl (Nat.le_of_ble_eq_true rfl) (c8_isUnder _ _ _) (fun r23 => ?_)
              refine J_if_ne dX0_clashersWith_78 (tgt := 88) (by decide) (fun c24 => ?_) (fun c24 => ?_)
              · refine JF_drop [5] ?_
                exact c0_clashersWith_b81 h o_h μ _ ih _ _ _ _
              · refine J_iinc dX0_clashersWith_88 rfl (c0 := (1 : Int32)) rfl (by decide) rfl ?_
                refine J_goto dX0_clashersWith_91 (tgt := 17) (by decide) ?_
                refine JF_drop [5] ?_
                exact ih _ _ _ _
set_option maxRecDepth 20000 in
theorem c0_clashersWith (h : Nat) (a1 : Int32) (μ : JMu) : ∀ b, f0_clashersWith h a1 μ = some b → JC m0_clashersWith 1 cPl [.ref h, .int (a1)] μ (some (.int b), μ) := by
  refine JC_of (emb := (fun b : Int32 => (some (.int b), μ))) (L0 := [some (.ref h), some (.int (a1)), none, none, none, none]) sm0_clashersWith (Nat.le_of_ble_eq_true rfl) rfl ?_
  unfold f0_clashersWith
  refine JF_chk (fun o_h => ?_)
  refine J_aload_n dX0_clashersWith_0 rfl ?_
  refine J_iload_n dX0_clashersWith_1 rfl ?_
  refine J_callV_q (M' := m0_find) (as := [_]) dX0_clashersWith_2 lX0_53 sm0_find sm0_find_w o_h hci_X0 (by decide) rfl (Nat.le_of_ble_eq_true rfl) (c0_find _ _ _) (fun r25 => ?_)
  refine J_astore_nQ dX0_clashersWith_5 (x := r25) (by decide) rfl ?_
  refine J_aload_nQ dX0_clashersWith_6 (x := r25) rfl ?_
  rcases r25 with _ | p26
  · refine J_ifnonnull0 dX0_clashersWith_7 ?_
    refine J_iconst dX0_clashersWith_10 (v := (0 : Int32)) rfl ?_
    exact J_iret dX0_clashersWith_11 rfl rfl
  · refine J_ifnonnull1 dX0_clashersWith_7 (tgt := 12) (by decide) ?_
    refine J_iconst dX0_clashersWith_12 (v := (0 : Int32)) rfl ?_
    refine J_istore_n dX0_clashersWith_13  (by decide) rfl ?_
    refine J_iconst dX0_clashersWith_14 (v := (0 : Int32)) rfl ?_
    refine J_istore dX0_clashersWith_15  (by decide) rfl ?_
    exact c0_clashersWith_b17 h o_h μ jN _ _ _ _
set_option maxRecDepth 20000 in
theorem c0_isPeaceWithout_b2 (h : Nat) (o_h : jO cPl h 0 = true) (μ : JMu) (n : Nat) : ∀ (v1 : Int32) (v2 : Int32), JF m0_isPeaceWithout 2 cPl (fun b : Int32 => (some (.int b), μ)) 2 [some (.ref h), some (.int (v1)), some (.int (v2))] [] μ (f0_isPeaceWithout_b2 h n v1 v2 μ) := by
  induction n with
  | zero => intros; exact JF_none
  | succ n ih =>
    intro v1 v2
    rw [f0_isPeaceWithout_b2]
    refine J_iload_n dX0_isPeaceWithout_2 rfl ?_
    refine J_aload_n dX0_isPeaceWithout_3 rfl ?_
    refine J_getI dX0_isPeaceWithout_4 wX0_50 rfl o_h ?_
    refine J_icmp_ge dX0_isPeaceWithout_7 (tgt := 38) (by decide) (fun c5 => ?_) (fun c5 => ?_)
    · refine J_iconst dX0_isPeaceWithout_38 (v := (1 : Int32)) rfl ?_
      exact J_zret dX0_isPeaceWithout_39 rfl (Or.inr rfl) rfl
    · refine J_iload_n dX0_isPeaceWithout_10 rfl ?_
      refine J_iload_n dX0_isPeaceWithout_11 rfl ?_
      refine J_ishr dX0_isPeaceWithout_12 ?_
      refine J_iconst dX0_isPeaceWithout_13 (v := (1 : Int32)) rfl ?_
      refine J_iand dX0_isPeaceWithout_14 ?_
      refine J_if_ne dX0_isPeaceWithout_15 (tgt := 32) (by decide) (fun c6 => ?_) (fun c6 => ?_)
      · refine J_aload_n dX0_isPeaceWithout_18 rfl ?_
        refine J_iload_n dX0_isPeaceWithout_19 rfl ?_
        refine J_callV_i (M' := m0_clashersWith) (as := [_]) dX0_isPeaceWithout_20 lX0_139 sm0_clashersWith sm0_clashersWith_w o_h hci_X0 (by decide) rfl (Nat.le_of_ble_eq_true rfl) (c0_clashersWith _ _ _) (fun r7 => ?_)
        refine J_iload_n dX0_isPeaceWithout_23 rfl ?_
        refine J_iconst dX0_isPeaceWithout_24 (v := (-1 : Int32)) rfl ?_
        refine J_ixor dX0_isPeaceWithout_25 ?_
        refine J_iand dX0_isPeaceWithout_26 ?_
        refine J_if_eq dX0_isPeaceWithout_27 (tgt := 32) (by decide) (fun c8 => ?_) (fun c8 => ?_)
        · refine J_iinc dX0_isPeaceWithout_32 rfl (c0 := (1 : Int32)) rfl (by decide) rfl ?_
          refine J_goto dX0_isPeaceWithout_35 (tgt := 2) (by decide) ?_
          exact ih _ _
        · refine J_iconst dX0_isPeaceWithout_30 (v := (0 : Int32)) rfl ?_
          exact J_zret dX0_isPeaceWithout_31 rfl (Or.inl rfl) rfl
      · refine J_iinc dX0_isPeaceWithout_32 rfl (c0 := (1 : Int32)) rfl (by decide) rfl ?_
        refine J_goto dX0_isPeaceWithout_35 (tgt := 2) (by decide) ?_
        exact ih _ _
set_option maxRecDepth 20000 in
theorem c0_isPeaceWithout (h : Nat) (a1 : Int32) (μ : JMu) : ∀ b, f0_isPeaceWithout h a1 μ = some b → JC m0_isPeaceWithout 2 cPl [.ref h, .int (a1)] μ (some (.int b), μ) := by
  refine JC_of (emb := (fun b : Int32 => (some (.int b), μ))) (L0 := [some (.ref h), some (.int (a1)), none]) sm0_isPeaceWithout (Nat.le_of_ble_eq_true rfl) rfl ?_
  unfold f0_isPeaceWithout
  refine JF_chk (fun o_h => ?_)
  refine J_iconst dX0_isPeaceWithout_0 (v := (0 : Int32)) rfl ?_
  refine J_istore_n dX0_isPeaceWithout_1  (by decide) rfl ?_
  exact c0_isPeaceWithout_b2 h o_h μ jN _ _
set_option maxRecDepth 20000 in
theorem c0_leastToGiveUp_b11 (h : Nat) (o_h : jO cPl h 0 = true) (μ : JMu) (n : Nat) : ∀ (v1 : Int32) (v2 : Int32), JF m0_leastToGiveUp 3 cPl (fun b : Int32 => (some (.int b), μ)) 11 [some (.ref h), some (.int (v1)), some (.int (v2))] [] μ (f0_leastToGiveUp_b11 h n v1 v2 μ) := by
  induction n with
  | zero => intros; exact JF_none
  | succ n ih =>
    intro v1 v2
    rw [f0_leastToGiveUp_b11]
    refine J_iload_n dX0_leastToGiveUp_11 rfl ?_
    refine J_iconst dX0_leastToGiveUp_12 (v := (1 : Int32)) rfl ?_
    refine J_aload_n dX0_leastToGiveUp_13 rfl ?_
    refine J_getI dX0_leastToGiveUp_14 wX0_50 rfl o_h ?_
    refine J_ishl dX0_leastToGiveUp_17 ?_
    refine J_icmp_ge dX0_leastToGiveUp_18 (tgt := 48) (by decide) (fun c7 => ?_) (fun c7 => ?_)
    · refine J_iload_n dX0_leastToGiveUp_48 rfl ?_
      exact J_iret dX0_leastToGiveUp_49 rfl rfl
    · refine J_iload_n dX0_leastToGiveUp_21 rfl ?_
      refine J_callS_i (M' := mj6_bitCount_0f7a4) (as := [_]) dX0_leastToGiveUp_22 lX0_95 smj6_bitCount_0f7a4 smj6_bitCount_0f7a4_w (by decide) rfl (Nat.le_of_ble_eq_true rfl) (cj6_bitCount_0f7a4 cPl _ _) (fun r8 => ?_)
      refine J_iload_n dX0_leastToGiveUp_25 rfl ?_
      refine J_callS_i (M' := mj6_bitCount_0f7a4) (as := [_]) dX0_leastToGiveUp_26 lX0_95 smj6_bitCount_0f7a4 smj6_bitCount_0f7a4_w (by decide) rfl (Nat.le_of_ble_eq_true rfl) (cj6_bitCount_0f7a4 cPl _ _) (fun r9 => ?_)
      refine J_icmp_ge dX0_leastToGiveUp_29 (tgt := 42) (by decide) (fun c10 => ?_) (fun c10 => ?_)
      · refine J_iinc dX0_leastToGiveUp_42 rfl (c0 := (1 : Int32)) rfl (by decide) rfl ?_
        refine J_goto dX0_leastToGiveUp_45 (tgt := 11) (by decide) ?_
        exact ih _ _
      · refine J_aload_n dX0_leastToGiveUp_32 rfl ?_
        refine J_iload_n dX0_leastToGiveUp_33 rfl ?_
        refine J_callV_i (M' := m0_isPeaceWithout) (as := [_]) dX0_leastToGiveUp_34 lX0_135 sm0_isPeaceWithout sm0_isPeaceWithout_w o_h hci_X0 (by decide) rfl (Nat.le_of_ble_eq_true rfl) (c0_isPeaceWithout _ _ _) (fun r11 => ?_)
        refine J_if_eq dX0_leastToGiveUp_37 (tgt := 42) (by decide) (fun c12 => ?_) (fun c12 => ?_)
        · refine J_iinc dX0_leastToGiveUp_42 rfl (c0 := (1 : Int32)) rfl (by decide) rfl ?_
          refine J_goto dX0_leastToGiveUp_45 (tgt := 11) (by decide) ?_
          exact ih _ _
        · refine J_iload_n dX0_leastToGiveUp_40 rfl ?_
          refine J_istore_n dX0_leastToGiveUp_41  (by decide) rfl ?_
          refine J_iinc dX0_leastToGiveUp_42 rfl (c0 := (1 : Int32)) rfl (by decide) rfl ?_
          refine J_goto dX0_leastToGiveUp_45 (tgt := 11) (by decide) ?_
          exact ih _ _
set_option maxRecDepth 20000 in
theorem c0_leastToGiveUp (h : Nat) (μ : JMu) : ∀ b, f0_leastToGiveUp h μ = some b → JC m0_leastToGiveUp 3 cPl [.ref h] μ (some (.int b), μ) := by
  refine JC_of (emb := (fun b : Int32 => (some (.int b), μ))) (L0 := [some (.ref h), none, none]) sm0_leastToGiveUp (Nat.le_of_ble_eq_true rfl) rfl ?_
  unfold f0_leastToGiveUp
  refine JF_chk (fun o_h => ?_)
  refine J_iconst dX0_leastToGiveUp_0 (v := (1 : Int32)) rfl ?_
  refine J_aload_n dX0_leastToGiveUp_1 rfl ?_
  refine J_getI dX0_leastToGiveUp_2 wX0_50 rfl o_h ?_
  refine J_ishl dX0_leastToGiveUp_5 ?_
  refine J_iconst dX0_leastToGiveUp_6 (v := (1 : Int32)) rfl ?_
  refine J_isub dX0_leastToGiveUp_7 ?_
  refine J_istore_n dX0_leastToGiveUp_8  (by decide) rfl ?_
  refine J_iconst dX0_leastToGiveUp_9 (v := (0 : Int32)) rfl ?_
  refine J_istore_n dX0_leastToGiveUp_10  (by decide) rfl ?_
  exact c0_leastToGiveUp_b11 h o_h μ jN _ _
set_option maxRecDepth 20000 in
theorem c3_empty (h : Nat) (μ : JMu) : ∀ b, f3_empty h μ = some b → JC m3_empty 0 cPl [.ref h] μ (none, b) := by
  refine JC_of (emb := (fun b : JMu => (none, b))) (L0 := [some (.ref h)]) sm3_empty (Nat.le_of_ble_eq_true rfl) rfl ?_
  unfold f3_empty
  refine JF_chk (fun o_h => ?_)
  refine J_aload_n dX3_empty_0 rfl ?_
  refine J_iconst dX3_empty_1 (v := (0 : Int32)) rfl ?_
  refine J_putI dX3_empty_2 wX3_19 rfl o_h ?_
  exact J_vret dX3_empty_5 rfl rfl
set_option maxRecDepth 20000 in
theorem c3_has (h : Nat) (a1 : Int32) (μ : JMu) : ∀ b, f3_has h a1 μ = some b → JC m3_has 0 cPl [.ref h, .int (a1)] μ (some (.int b), μ) := by
  refine JC_of (emb := (fun b : Int32 => (some (.int b), μ))) (L0 := [some (.ref h), some (.int (a1))]) sm3_has (Nat.le_of_ble_eq_true rfl) rfl ?_
  unfold f3_has
  refine JF_chk (fun o_h => ?_)
  refine J_iload_n dX3_has_0 rfl ?_
  refine J_if_lt dX3_has_1 (tgt := 25) (by decide) (fun c5 => ?_) (fun c5 => ?_)
  · refine J_iconst dX3_has_25 (v := (0 : Int32)) rfl ?_
    exact J_zret dX3_has_26 rfl (Or.inl rfl) rfl
  · refine J_iload_n dX3_has_4 rfl ?_
    refine J_aload_n dX3_has_5 rfl ?_
    refine J_getI dX3_has_6 wX3_19 rfl o_h ?_
    refine J_icmp_ge dX3_has_9 (tgt := 25) (by decide) (fun c6 => ?_) (fun c6 => ?_)
    · refine J_iconst dX3_has_25 (v := (0 : Int32)) rfl ?_
      exact J_zret dX3_has_26 rfl (Or.inl rfl) rfl
    · refine J_iload_n dX3_has_12 rfl ?_
      refine J_aload_n dX3_has_13 rfl ?_
      refine J_getR dX3_has_14 wX3_13 rfl o_h rfl ?_
      refine JF_chk (fun o7 => ?_)
      refine J_alen dX3_has_17 o7 rfl rfl ?_
      refine J_icmp_ge dX3_has_18 (tgt := 25) (by decide) (fun c8 => ?_) (fun c8 => ?_)
      · refine J_iconst dX3_has_25 (v := (0 : Int32)) rfl ?_
        exact J_zret dX3_has_26 rfl (Or.inl rfl) rfl
      · refine J_iconst dX3_has_21 (v := (1 : Int32)) rfl ?_
        refine J_goto dX3_has_22 (tgt := 26) (by decide) ?_
        exact J_zret dX3_has_26 rfl (Or.inr rfl) rfl
set_option maxRecDepth 20000 in
theorem c2_here (μ : JMu) : ∀ b, f2_here  μ = some b → JC m2_here 1 cPl [.ref 61] μ (some (.int b), μ) := by
  refine JC_of (emb := (fun b : Int32 => (some (.int b), μ))) (L0 := [some (.ref 61)]) sm2_here (Nat.le_of_ble_eq_true rfl) rfl ?_
  unfold f2_here
  refine J_aload_n dX2_here_0 rfl ?_
  refine J_getR dX2_here_1 wX2_14 rfl jo_cPl_61 jr_61_0 ?_
  refine J_aload_n dX2_here_4 rfl ?_
  refine J_getI dX2_here_5 wX2_34 rfl jo_cPl_61 ?_
  refine J_callV_i (M' := m3_has) (as := [_]) dX2_here_8 lX2_44 sm3_has sm3_has_w jo_cPl_62 hci_X3 (by decide) rfl (Nat.le_of_ble_eq_true rfl) (c3_has _ _ _) (fun r4 => ?_)
  refine J_if_eq dX2_here_11 (tgt := 28) (by decide) (fun c5 => ?_) (fun c5 => ?_)
  · refine J_iconst dX2_here_28 (v := (-1 : Int32)) rfl ?_
    exact J_iret dX2_here_29 rfl rfl
  · refine J_aload_n dX2_here_14 rfl ?_
    refine J_getR dX2_here_15 wX2_14 rfl jo_cPl_61 jr_61_0 ?_
    refine J_aload_n dX2_here_18 rfl ?_
    refine J_getI dX2_here_19 wX2_34 rfl jo_cPl_61 ?_
    refine J_callV_i (M' := m3_get) (as := [_]) dX2_here_22 lX2_48 sm3_get sm3_get_w jo_cPl_62 hci_X3 (by decide) rfl (Nat.le_of_ble_eq_true rfl) (c3_get _ _ _) (fun r6 => ?_)
    refine J_goto dX2_here_25 (tgt := 29) (by decide) ?_
    exact J_iret dX2_here_29 rfl rfl
set_option maxRecDepth 20000 in
theorem c2_levelOf (a1 : Int32) (μ : JMu) : ∀ b, f2_levelOf a1 = some b → JC m2_levelOf 0 cPl [.int (a1)] μ (some (.int b), μ) := by
  refine JC_of (emb := (fun b : Int32 => (some (.int b), μ))) (L0 := [some (.int (a1))]) sm2_levelOf (Nat.le_of_ble_eq_true rfl) rfl ?_
  unfold f2_levelOf
  refine J_iload_n dX2_levelOf_0 rfl ?_
  refine JF_ite (fun c11 => ?_) (fun c11 => ?_)
  · refine J_look dX2_levelOf_1 (off := 99) (tgt := 100) (by decide) (by rw [c11]; decide) (by decide) ?_
    refine J_iconst dX2_levelOf_100 (v := (4 : Int32)) rfl ?_
    exact J_iret dX2_levelOf_101 rfl rfl
  · refine JF_ite (fun c12 => ?_) (fun c12 => ?_)
    · refine J_look dX2_levelOf_1 (off := 93) (tgt := 94) (by decide) (by rw [c12]; decide) (by decide) ?_
      refine J_iconst dX2_levelOf_94 (v := (1 : Int32)) rfl ?_
      exact J_iret dX2_levelOf_95 rfl rfl
    · refine JF_ite (fun c13 => ?_) (fun c13 => ?_)
      · refine J_look dX2_levelOf_1 (off := 99) (tgt := 100) (by decide) (by rw [c13]; decide) (by decide) ?_
        refine J_iconst dX2_levelOf_100 (v := (4 : Int32)) rfl ?_
        exact J_iret dX2_levelOf_101 rfl rfl
      · refine JF_ite (fun c14 => ?_) (fun c14 => ?_)
        · refine J_look dX2_levelOf_1 (off := 97) (tgt := 98) (by decide) (by rw [c14]; decide) (by decide) ?_
          refine J_iconst dX2_levelOf_98 (v := (3 : Int32)) rfl ?_
          exact J_iret dX2_levelOf_99 rfl rfl
        · refine JF_ite (fun c15 => ?_) (fun c15 => ?_)
          · refine J_look dX2_levelOf_1 (off := 97) (tgt := 98) (by decide) (by rw [c15]; decide) (by decide) ?_
            refine J_iconst dX2_levelOf_98 (v := (3 : Int32)) rfl ?_
            exact J_iret dX2_levelOf_99 rfl rfl
          · refine JF_ite (fun c16 => ?_) (fun c16 => ?_)
            · refine J_look dX2_levelOf_1 (off := 99) (tgt := 100) (by decide) (by rw [c16]; decide) (by decide) ?_
              refine J_iconst dX2_levelOf_100 (v := (4 : Int32)) rfl ?_
              exact J_iret dX2_levelOf_101 rfl rfl
            · refine JF_ite (fun c17 => ?_) (fun c17 => ?_)
              · refine J_look dX2_levelOf_1 (off := 95) (tgt := 96) (by decide) (by rw [c17]; decide) (by decide) ?_
                refine J_iconst dX2_levelOf_96 (v := (2 : Int32)) rfl ?_
                exact J_iret dX2_levelOf_97 rfl rfl
              · refine JF_ite (fun c18 => ?_) (fun c18 => ?_)
                · refine J_look dX2_levelOf_1 (off := 95) (tgt := 96) (by decide) (by rw [c18]; decide) (by decide) ?_
                  refine J_iconst dX2_levelOf_96 (v := (2 : Int32)) rfl ?_
                  exact J_iret dX2_levelOf_97 rfl rfl
                · refine JF_ite (fun c19 => ?_) (fun c19 => ?_)
                  · refine J_look dX2_levelOf_1 (off := 95) (tgt := 96) (by decide) (by rw [c19]; decide) (by decide) ?_
                    refine J_iconst dX2_levelOf_96 (v := (2 : Int32)) rfl ?_
                    exact J_iret dX2_levelOf_97 rfl rfl
                  · refine JF_ite (fun c20 => ?_) (fun c20 => ?_)
                    · refine J_look dX2_levelOf_1 (off := 91) (tgt := 92) (by decide) (by rw [c20]; decide) (by decide) ?_
                      refine J_iconst dX2_levelOf_92 (v := (0 : Int32)) rfl ?_
                      exact J_iret dX2_levelOf_93 rfl rfl
                    · refine J_look dX2_levelOf_1 (off := 101) (tgt := 102) (by decide) (by show Op.lookupswitch.offset [(37, 99), (38, 93), (42, 99), (43, 97), (45, 97), (47, 99), (60, 95), (61, 95), (62, 95), (124, 91)] _ _ = _; rw [lv_osw c11 (k := (37 : Int32)) (a := 37) rfl, lv_osw c12 (k := (38 : Int32)) (a := 38) rfl, lv_osw c13 (k := (42 : Int32)) (a := 42) rfl, lv_osw c14 (k := (43 : Int32)) (a := 43) rfl, lv_osw c15 (k := (45 : Int32)) (a := 45) rfl, lv_osw c16 (k := (47 : Int32)) (a := 47) rfl, lv_osw c17 (k := (60 : Int32)) (a := 60) rfl, lv_osw c18 (k := (61 : Int32)) (a := 61) rfl, lv_osw c19 (k := (62 : Int32)) (a := 62) rfl, lv_osw c20 (k := (124 : Int32)) (a := 124) rfl]; rfl) (by decide) ?_
                      refine J_iconst dX2_levelOf_102 (v := (-1 : Int32)) rfl ?_
                      exact J_iret dX2_levelOf_103 rfl rfl
set_option maxRecDepth 20000 in
theorem c3_add (h : Nat) (a1 : Int32) (μ : JMu) : ∀ b, f3_add h a1 μ = some b → JC m3_add 0 cPl [.ref h, .int (a1)] μ (some (.int b.1), b.2) := by
  refine JC_of (emb := (fun b : Int32 × JMu => (some (.int b.1), b.2))) (L0 := [some (.ref h), some (.int (a1))]) sm3_add (Nat.le_of_ble_eq_true rfl) rfl ?_
  unfold f3_add
  refine JF_chk (fun o_h => ?_)
  refine J_aload_n dX3_add_0 rfl ?_
  refine J_getI dX3_add_1 wX3_19 rfl o_h ?_
  refine J_if_lt dX3_add_4 (tgt := 19) (by decide) (fun c5 => ?_) (fun c5 => ?_)
  · refine J_iconst dX3_add_19 (v := (0 : Int32)) rfl ?_
    exact J_zret dX3_add_20 rfl (Or.inl rfl) rfl
  · refine J_aload_n dX3_add_7 rfl ?_
    refine J_getI dX3_add_8 wX3_19 rfl o_h ?_
    refine J_aload_n dX3_add_11 rfl ?_
    refine J_getR dX3_add_12 wX3_13 rfl o_h rfl ?_
    refine JF_chk (fun o6 => ?_)
    refine J_alen dX3_add_15 o6 rfl rfl ?_
    refine J_icmp_lt dX3_add_16 (tgt := 21) (by decide) (fun c7 => ?_) (fun c7 => ?_)
    · refine J_aload_n dX3_add_21 rfl ?_
      refine J_getR dX3_add_22 wX3_13 rfl o_h rfl ?_
      refine J_aload_n dX3_add_25 rfl ?_
      refine J_getI dX3_add_26 wX3_19 rfl o_h ?_
      refine J_iload_n dX3_add_29 rfl ?_
      refine JF_chk (fun c8 => ?_)
      refine J_iast dX3_add_30 o6 rfl (jin_spec c8) rfl ?_
      refine J_aload_n dX3_add_31 rfl ?_
      refine J_dup dX3_add_32 rfl ?_
      refine J_getI dX3_add_33 wX3_19 rfl o_h ?_
      refine J_iconst dX3_add_36 (v := (1 : Int32)) rfl ?_
      refine J_iadd dX3_add_37 ?_
      refine J_putI dX3_add_38 wX3_19 rfl o_h ?_
      refine J_iconst dX3_add_41 (v := (1 : Int32)) rfl ?_
      exact J_zret dX3_add_42 rfl (Or.inr rfl) rfl
    · refine J_iconst dX3_add_19 (v := (0 : Int32)) rfl ?_
      exact J_zret dX3_add_20 rfl (Or.inl rfl) rfl
set_option maxRecDepth 20000 in
theorem c2_isDigit (a1 : Int32) (μ : JMu) : ∀ b, f2_isDigit a1 = some b → JC m2_isDigit 0 cPl [.int (a1)] μ (some (.int b), μ) := by
  refine JC_of (emb := (fun b : Int32 => (some (.int b), μ))) (L0 := [some (.int (a1))]) sm2_isDigit (Nat.le_of_ble_eq_true rfl) rfl ?_
  unfold f2_isDigit
  refine J_iload_n dX2_isDigit_0 rfl ?_
  refine J_bipush dX2_isDigit_1 (v := (48 : Int32)) rfl ?_
  refine J_icmp_lt dX2_isDigit_3 (tgt := 16) (by decide) (fun c3 => ?_) (fun c3 => ?_)
  · refine J_iconst dX2_isDigit_16 (v := (0 : Int32)) rfl ?_
    exact J_zret dX2_isDigit_17 rfl (Or.inl rfl) rfl
  · refine J_iload_n dX2_isDigit_6 rfl ?_
    refine J_bipush dX2_isDigit_7 (v := (57 : Int32)) rfl ?_
    refine J_icmp_gt dX2_isDigit_9 (tgt := 16) (by decide) (fun c4 => ?_) (fun c4 => ?_)
    · refine J_iconst dX2_isDigit_16 (v := (0 : Int32)) rfl ?_
      exact J_zret dX2_isDigit_17 rfl (Or.inl rfl) rfl
    · refine J_iconst dX2_isDigit_12 (v := (1 : Int32)) rfl ?_
      refine J_goto dX2_isDigit_13 (tgt := 17) (by decide) ?_
      exact J_zret dX2_isDigit_17 rfl (Or.inr rfl) rfl
set_option maxRecDepth 20000 in
theorem c2_readNumber_b48 (v1 : Int32) (μ : JMu) : JF m2_readNumber 2 cPl (fun b : JMu => (none, b)) 48 [some (.ref 61), some (.int (v1)), none] [] μ (f2_readNumber_b48 v1 μ) := by
  unfold f2_readNumber_b48
  refine J_aload_n dX2_readNumber_48 rfl ?_
  refine J_getR dX2_readNumber_49 wX2_20 rfl jo_cPl_61 jr_61_1 ?_
  refine J_iload_n dX2_readNumber_52 rfl ?_
  refine J_callV_w (M' := m3_add) (as := [_]) dX2_readNumber_53 lX2_62 sm3_add sm3_add_w jo_cPl_64 hci_X3 (by decide) rfl (Nat.le_of_ble_eq_true rfl) (c3_add _ _ _) (fun r7 => ?_)
  refine J_pop dX2_readNumber_56 rfl ?_
  exact J_vret dX2_readNumber_57 rfl rfl
set_option maxRecDepth 20000 in
theorem c2_readNumber_b4 (n : Nat) : ∀ (v1 : Int32) (v2 : Int32) (μ : JMu), JF m2_readNumber 2 cPl (fun b : JMu => (none, b)) 4 [some (.ref 61), some (.int (v1)), some (.int (v2))] [] μ (f2_readNumber_b4 n v1 v2 μ) := by
  induction n with
  | zero => intros; exact JF_none
  | succ n ih =>
    intro v1 v2 μ
    rw [f2_readNumber_b4]
    refine J_iload_n dX2_readNumber_4 rfl ?_
    refine J_iconst dX2_readNumber_5 (v := (4 : Int32)) rfl ?_
    refine J_icmp_ge dX2_readNumber_6 (tgt := 48) (by decide) (fun c8 => ?_) (fun c8 => ?_)
    · refine JF_drop [2] ?_
      exact c2_readNumber_b48 _ _
    · refine J_aload_n dX2_readNumber_9 rfl ?_
      refine J_callV_i (M' := m2_here) (as := []) dX2_readNumber_10 lX2_55 sm2_here sm2_here_w jo_cPl_61 hci_X2 (by decide) rfl (Nat.le_of_ble_eq_true rfl) (c2_here  _) (fun r9 => ?_)
      refine J_callS_i (M' := m2_isDigit) (as := [_]) dX2_readNumber_13 lX2_65 sm2_isDigit sm2_isDigit_w (by decide) rfl (Nat.le_of_ble_eq_true rfl) (c2_isDigit _ _) (fun r10 => ?_)
      refine J_if_eq dX2_readNumber_16 (tgt := 48) (by decide) (fun c11 => ?_) (fun c11 => ?_)
      · refine JF_drop [2] ?_
        exact c2_readNumber_b48 _ _
      · refine J_iload_n dX2_readNumber_19 rfl ?_
        refine J_bipush dX2_readNumber_20 (v := (10 : Int32)) rfl ?_
        refine J_imul dX2_readNumber_22 ?_
        refine J_aload_n dX2_readNumber_23 rfl ?_
        refine J_callV_i (M' := m2_here) (as := []) dX2_readNumber_24 lX2_55 sm2_here sm2_here_w jo_cPl_61 hci_X2 (by decide) rfl (Nat.le_of_ble_eq_true rfl) (c2_here  _) (fun r12 => ?_)
        refine J_iadd dX2_readNumber_27 ?_
        refine J_bipush dX2_readNumber_28 (v := (48 : Int32)) rfl ?_
        refine J_isub dX2_readNumber_30 ?_
        refine J_istore_n dX2_readNumber_31  (by decide) rfl ?_
        refine J_aload_n dX2_readNumber_32 rfl ?_
        refine J_dup dX2_readNumber_33 rfl ?_
        refine J_getI dX2_readNumber_34 wX2_34 rfl jo_cPl_61 ?_
        refine J_iconst dX2_readNumber_37 (v := (1 : Int32)) rfl ?_
        refine J_iadd dX2_readNumber_38 ?_
        refine J_putI dX2_readNumber_39 wX2_34 rfl jo_cPl_61 ?_
        refine J_iinc dX2_readNumber_42 rfl (c0 := (1 : Int32)) rfl (by decide) rfl ?_
        refine J_goto dX2_readNumber_45 (tgt := 4) (by decide) ?_
        exact ih _ _ _
set_option maxRecDepth 20000 in
theorem c2_readNumber (μ : JMu) : ∀ b, f2_readNumber  μ = some b → JC m2_readNumber 2 cPl [.ref 61] μ (none, b) := by
  refine JC_of (emb := (fun b : JMu => (none, b))) (L0 := [some (.ref 61), none, none]) sm2_readNumber (Nat.le_of_ble_eq_true rfl) rfl ?_
  unfold f2_readNumber
  refine J_iconst dX2_readNumber_0 (v := (0 : Int32)) rfl ?_
  refine J_istore_n dX2_readNumber_1  (by decide) rfl ?_
  refine J_iconst dX2_readNumber_2 (v := (0 : Int32)) rfl ?_
  refine J_istore_n dX2_readNumber_3  (by decide) rfl ?_
  exact c2_readNumber_b4 jN _ _ _
set_option maxRecDepth 20000 in
theorem c2_nameOf (a1 : Int32) (μ : JMu) : ∀ b, f2_nameOf a1 μ = some b → JC m2_nameOf 0 cPl [.ref 61, .int (a1)] μ (some (.int b), μ) := by
  refine JC_of (emb := (fun b : Int32 => (some (.int b), μ))) (L0 := [some (.ref 61), some (.int (a1))]) sm2_nameOf (Nat.le_of_ble_eq_true rfl) rfl ?_
  unfold f2_nameOf
  refine J_iload_n dX2_nameOf_0 rfl ?_
  refine JF_ite (fun c13 => ?_) (fun c13 => ?_)
  · refine J_look dX2_nameOf_1 (off := 114) (tgt := 115) (by decide) (by rw [c13]; decide) (by decide) ?_
    refine J_aload_n dX2_nameOf_115 rfl ?_
    refine J_getI dX2_nameOf_116 wX2_30 rfl jo_cPl_61 ?_
    refine J_iconst dX2_nameOf_119 (v := (1 : Int32)) rfl ?_
    refine J_icmp_ne dX2_nameOf_120 (tgt := 128) (by decide) (fun c14 => ?_) (fun c14 => ?_)
    · refine J_bipush dX2_nameOf_123 (v := (-2 : Int32)) rfl ?_
      refine J_goto dX2_nameOf_125 (tgt := 129) (by decide) ?_
      exact J_iret dX2_nameOf_129 rfl rfl
    · refine J_iconst dX2_nameOf_128 (v := (0 : Int32)) rfl ?_
      exact J_iret dX2_nameOf_129 rfl rfl
  · refine JF_ite (fun c15 => ?_) (fun c15 => ?_)
    · refine J_look dX2_nameOf_1 (off := 59) (tgt := 60) (by decide) (by rw [c15]; decide) (by decide) ?_
      refine J_aload_n dX2_nameOf_60 rfl ?_
      refine J_getI dX2_nameOf_61 wX2_30 rfl jo_cPl_61 ?_
      refine J_if_ne dX2_nameOf_64 (tgt := 71) (by decide) (fun c16 => ?_) (fun c16 => ?_)
      · refine J_iconst dX2_nameOf_67 (v := (-1 : Int32)) rfl ?_
        refine J_goto dX2_nameOf_68 (tgt := 72) (by decide) ?_
        exact J_iret dX2_nameOf_72 rfl rfl
      · refine J_iconst dX2_nameOf_71 (v := (0 : Int32)) rfl ?_
        exact J_iret dX2_nameOf_72 rfl rfl
    · refine JF_ite (fun c17 => ?_) (fun c17 => ?_)
      · refine J_look dX2_nameOf_1 (off := 72) (tgt := 73) (by decide) (by rw [c17]; decide) (by decide) ?_
        refine J_aload_n dX2_nameOf_73 rfl ?_
        refine J_getI dX2_nameOf_74 wX2_30 rfl jo_cPl_61 ?_
        refine J_if_ne dX2_nameOf_77 (tgt := 85) (by decide) (fun c18 => ?_) (fun c18 => ?_)
        · refine J_bipush dX2_nameOf_80 (v := (-2 : Int32)) rfl ?_
          refine J_goto dX2_nameOf_82 (tgt := 86) (by decide) ?_
          exact J_iret dX2_nameOf_86 rfl rfl
        · refine J_iconst dX2_nameOf_85 (v := (0 : Int32)) rfl ?_
          exact J_iret dX2_nameOf_86 rfl rfl
      · refine JF_ite (fun c19 => ?_) (fun c19 => ?_)
        · refine J_look dX2_nameOf_1 (off := 129) (tgt := 130) (by decide) (by rw [c19]; decide) (by decide) ?_
          refine J_aload_n dX2_nameOf_130 rfl ?_
          refine J_getI dX2_nameOf_131 wX2_30 rfl jo_cPl_61 ?_
          refine J_iconst dX2_nameOf_134 (v := (1 : Int32)) rfl ?_
          refine J_icmp_ne dX2_nameOf_135 (tgt := 143) (by decide) (fun c20 => ?_) (fun c20 => ?_)
          · refine J_bipush dX2_nameOf_138 (v := (-3 : Int32)) rfl ?_
            refine J_goto dX2_nameOf_140 (tgt := 144) (by decide) ?_
            exact J_iret dX2_nameOf_144 rfl rfl
          · refine J_iconst dX2_nameOf_143 (v := (0 : Int32)) rfl ?_
            exact J_iret dX2_nameOf_144 rfl rfl
        · refine JF_ite (fun c21 => ?_) (fun c21 => ?_)
          · refine J_look dX2_nameOf_1 (off := 100) (tgt := 101) (by decide) (by rw [c21]; decide) (by decide) ?_
            refine J_aload_n dX2_nameOf_101 rfl ?_
            refine J_getI dX2_nameOf_102 wX2_30 rfl jo_cPl_61 ?_
            refine J_iconst dX2_nameOf_105 (v := (1 : Int32)) rfl ?_
            refine J_icmp_ne dX2_nameOf_106 (tgt := 113) (by decide) (fun c22 => ?_) (fun c22 => ?_)
            · refine J_iconst dX2_nameOf_109 (v := (-1 : Int32)) rfl ?_
              refine J_goto dX2_nameOf_110 (tgt := 114) (by decide) ?_
              exact J_iret dX2_nameOf_114 rfl rfl
            · refine J_iconst dX2_nameOf_113 (v := (0 : Int32)) rfl ?_
              exact J_iret dX2_nameOf_114 rfl rfl
          · refine JF_ite (fun c23 => ?_) (fun c23 => ?_)
            · refine J_look dX2_nameOf_1 (off := 86) (tgt := 87) (by decide) (by rw [c23]; decide) (by decide) ?_
              refine J_aload_n dX2_nameOf_87 rfl ?_
              refine J_getI dX2_nameOf_88 wX2_30 rfl jo_cPl_61 ?_
              refine J_if_ne dX2_nameOf_91 (tgt := 99) (by decide) (fun c24 => ?_) (fun c24 => ?_)
              · refine J_bipush dX2_nameOf_94 (v := (-3 : Int32)) rfl ?_
                refine J_goto dX2_nameOf_96 (tgt := 100) (by decide) ?_
                exact J_iret dX2_nameOf_100 rfl rfl
              · refine J_iconst dX2_nameOf_99 (v := (0 : Int32)) rfl ?_
                exact J_iret dX2_nameOf_100 rfl rfl
            · refine J_look dX2_nameOf_1 (off := 144) (tgt := 145) (by decide) (by show Op.lookupswitch.offset [(99, 114), (110, 59), (112, 72), (113, 129), (114, 100), (119, 86)] _ _ = _; rw [lv_osw c13 (k := (99 : Int32)) (a := 99) rfl, lv_osw c15 (k := (110 : Int32)) (a := 110) rfl, lv_osw c17 (k := (112 : Int32)) (a := 112) rfl, lv_osw c19 (k := (113 : Int32)) (a := 113) rfl, lv_osw c21 (k := (114 : Int32)) (a := 114) rfl, lv_osw c23 (k := (119 : Int32)) (a := 119) rfl]; rfl) (by decide) ?_
              refine J_iconst dX2_nameOf_145 (v := (0 : Int32)) rfl ?_
              exact J_iret dX2_nameOf_146 rfl rfl
set_option maxRecDepth 20000 in
theorem c2_readLevel_b23 (k : Nat) (r0 : Int32 → Int32 → JMu → Option (Int32 × JMu)) (r1 : Int32 → JMu → Option (Int32 × JMu)) (r2 : Int32 → JMu → Option (Int32 × JMu)) (r3 : Int32 → JMu → Option (Int32 × JMu)) (hr0 : ∀ (a1 : Int32) (a2 : Int32) (μ : JMu) (b : Int32 × JMu), r0 a1 a2 μ = some b → JC m2_readLevel (3 + k) cPl [.ref 61, .int a1, .int a2] μ (some (.int b.1), b.2)) (hr1 : ∀ (a1 : Int32) (μ : JMu) (b : Int32 × JMu), r1 a1 μ = some b → JC m2_readSingle (3 + k) cPl [.ref 61, .int a1] μ (some (.int b.1), b.2)) (hr2 : ∀ (a1 : Int32) (μ : JMu) (b : Int32 × JMu), r2 a1 μ = some b → JC m2_readNot (3 + k) cPl [.ref 61, .int a1] μ (some (.int b.1), b.2)) (hr3 : ∀ (a1 : Int32) (μ : JMu) (b : Int32 × JMu), r3 a1 μ = some b → JC m2_readClosed (3 + k) cPl [.ref 61, .int a1] μ (some (.int b.1), b.2)) (n : Nat) : ∀ (v1 : Int32) (v2 : Int32) (v3 : Int32) (v4 : Int32) (μ : JMu), JF m2_readLevel (3 + k + 1) cPl (fun b : Int32 × JMu => (some (.int b.1), b.2)) 23 [some (.ref 61), some (.int (v1)), some (.int (v2)), some (.int (v3)), some (.int (v4)), none] [] μ (f2_readLevel_b23 r0 r1 r2 r3 n v1 v2 v3 v4 μ) := by
  induction n with
  | zero => intros; exact JF_none
  | succ n ih =>
    intro v1 v2 v3 v4 μ
    rw [f2_readLevel_b23]
    refine J_iload dX2_readLevel_23 rfl ?_
    refine J_bipush dX2_readLevel_25 (v := (50 : Int32)) rfl ?_
    refine J_icmp_ge dX2_readLevel_27 (tgt := 94) (by decide) (fun c18 => ?_) (fun c18 => ?_)
    · refine J_iload_n dX2_readLevel_94 rfl ?_
      refine JF_chk (fun c19 => ?_)
      exact J_zret dX2_readLevel_95 rfl c19 rfl
    · refine J_iload_n dX2_readLevel_30 rfl ?_
      refine J_if_eq dX2_readLevel_31 (tgt := 94) (by decide) (fun c20 => ?_) (fun c20 => ?_)
      · refine J_iload_n dX2_readLevel_94 rfl ?_
        refine JF_chk (fun c21 => ?_)
        exact J_zret dX2_readLevel_95 rfl c21 rfl
      · refine J_aload_n dX2_readLevel_34 rfl ?_
        refine J_callV_i (M' := m2_here) (as := []) dX2_readLevel_35 lX2_55 sm2_here sm2_here_w jo_cPl_61 hci_X2 (by omega) rfl (Nat.le_of_ble_eq_true rfl) (c2_here  _) (fun r22 => ?_)
        refine J_callS_i (M' := m2_levelOf) (as := [_]) dX2_readLevel_38 lX2_59 sm2_levelOf sm2_levelOf_w (by omega) rfl (Nat.le_of_ble_eq_true rfl) (c2_levelOf _ _) (fun r23 => ?_)
        refine J_iload_n dX2_readLevel_41 rfl ?_
        refine J_icmp_ne dX2_readLevel_42 (tgt := 94) (by decide) (fun c24 => ?_) (fun c24 => ?_)
        · refine J_aload_n dX2_readLevel_45 rfl ?_
          refine J_callV_i (M' := m2_here) (as := []) dX2_readLevel_46 lX2_55 sm2_here sm2_here_w jo_cPl_61 hci_X2 (by omega) rfl (Nat.le_of_ble_eq_true rfl) (c2_here  _) (fun r26 => ?_)
          refine J_istore dX2_readLevel_49  (by decide) rfl ?_
          refine J_aload_n dX2_readLevel_51 rfl ?_
          refine J_dup dX2_readLevel_52 rfl ?_
          refine J_getI dX2_readLevel_53 wX2_34 rfl jo_cPl_61 ?_
          refine J_iconst dX2_readLevel_56 (v := (1 : Int32)) rfl ?_
          refine J_iadd dX2_readLevel_57 ?_
          refine J_putI dX2_readLevel_58 wX2_34 rfl jo_cPl_61 ?_
          refine J_aload_n dX2_readLevel_61 rfl ?_
          refine J_iload_n dX2_readLevel_62 rfl ?_
          refine J_iconst dX2_readLevel_63 (v := (1 : Int32)) rfl ?_
          refine J_iadd dX2_readLevel_64 ?_
          refine J_iload_n dX2_readLevel_65 rfl ?_
          refine J_callV_w (M' := m2_readLevel) (as := [_, _]) dX2_readLevel_66 lX2_37 sm2_readLevel sm2_readLevel_w jo_cPl_61 hci_X2 (by omega) rfl (Nat.le_of_ble_eq_true rfl) (hr0 _ _ _) (fun r27 => ?_)
          refine J_istore_n dX2_readLevel_69  (by decide) rfl ?_
          refine J_aload_n dX2_readLevel_70 rfl ?_
          refine J_getR dX2_readLevel_71 wX2_20 rfl jo_cPl_61 jr_61_1 ?_
          refine J_iload dX2_readLevel_74 rfl ?_
          refine J_ineg dX2_readLevel_76 ?_
          refine J_callV_w (M' := m3_add) (as := [_]) dX2_readLevel_77 lX2_62 sm3_add sm3_add_w jo_cPl_64 hci_X3 (by omega) rfl (Nat.le_of_ble_eq_true rfl) (c3_add _ _ _) (fun r28 => ?_)
          refine J_pop dX2_readLevel_80 rfl ?_
          refine J_iload_n dX2_readLevel_81 rfl ?_
          refine J_iconst dX2_readLevel_82 (v := (2 : Int32)) rfl ?_
          refine J_icmp_ne dX2_readLevel_83 (tgt := 88) (by decide) (fun c29 => ?_) (fun c29 => ?_)
          · refine J_iload_n dX2_readLevel_86 rfl ?_
            refine JF_chk (fun c30 => ?_)
            exact J_zret dX2_readLevel_87 rfl c30 rfl
          · refine J_iinc dX2_readLevel_88 rfl (c0 := (1 : Int32)) rfl (by decide) rfl ?_
            refine J_goto dX2_readLevel_91 (tgt := 23) (by decide) ?_
            refine JF_drop [5] ?_
            exact ih _ _ _ _ _
        · refine J_iload_n dX2_readLevel_94 rfl ?_
          refine JF_chk (fun c25 => ?_)
          exact J_zret dX2_readLevel_95 rfl c25 rfl
set_option maxRecDepth 20000 in
theorem c2_readLevel_o (k : Nat) (r0 : Int32 → Int32 → JMu → Option (Int32 × JMu)) (r1 : Int32 → JMu → Option (Int32 × JMu)) (r2 : Int32 → JMu → Option (Int32 × JMu)) (r3 : Int32 → JMu → Option (Int32 × JMu)) (hr0 : ∀ (a1 : Int32) (a2 : Int32) (μ : JMu) (b : Int32 × JMu), r0 a1 a2 μ = some b → JC m2_readLevel (3 + k) cPl [.ref 61, .int a1, .int a2] μ (some (.int b.1), b.2)) (hr1 : ∀ (a1 : Int32) (μ : JMu) (b : Int32 × JMu), r1 a1 μ = some b → JC m2_readSingle (3 + k) cPl [.ref 61, .int a1] μ (some (.int b.1), b.2)) (hr2 : ∀ (a1 : Int32) (μ : JMu) (b : Int32 × JMu), r2 a1 μ = some b → JC m2_readNot (3 + k) cPl [.ref 61, .int a1] μ (some (.int b.1), b.2)) (hr3 : ∀ (a1 : Int32) (μ : JMu) (b : Int32 × JMu), r3 a1 μ = some b → JC m2_readClosed (3 + k) cPl [.ref 61, .int a1] μ (some (.int b.1), b.2)) (a1 : Int32) (a2 : Int32) (μ : JMu) : ∀ b, f2_readLevel_o r0 r1 r2 r3 a1 a2 μ = some b → JC m2_readLevel (3 + k + 1) cPl [.ref 61, .int (a1), .int (a2)] μ (some (.int b.1), b.2) := by
  refine JC_of (emb := (fun b : Int32 × JMu => (some (.int b.1), b.2))) (L0 := [some (.ref 61), some (.int (a1)), some (.int (a2)), none, none, none]) sm2_readLevel (Nat.le_of_ble_eq_true rfl) rfl ?_
  unfold f2_readLevel_o
  refine J_iload_n dX2_readLevel_0 rfl ?_
  refine J_iconst dX2_readLevel_1 (v := (5 : Int32)) rfl ?_
  refine J_icmp_lt dX2_readLevel_2 (tgt := 11) (by decide) (fun c31 => ?_) (fun c31 => ?_)
  · refine J_aload_n dX2_readLevel_11 rfl ?_
    refine J_iload_n dX2_readLevel_12 rfl ?_
    refine J_iconst dX2_readLevel_13 (v := (1 : Int32)) rfl ?_
    refine J_iadd dX2_readLevel_14 ?_
    refine J_iload_n dX2_readLevel_15 rfl ?_
    refine J_callV_w (M' := m2_readLevel) (as := [_, _]) dX2_readLevel_16 lX2_37 sm2_readLevel sm2_readLevel_w jo_cPl_61 hci_X2 (by omega) rfl (Nat.le_of_ble_eq_true rfl) (hr0 _ _ _) (fun r32 => ?_)
    refine J_istore_n dX2_readLevel_19  (by decide) rfl ?_
    refine J_iconst dX2_readLevel_20 (v := (0 : Int32)) rfl ?_
    refine J_istore dX2_readLevel_21  (by decide) rfl ?_
    exact c2_readLevel_b23 k r0 r1 r2 r3 hr0 hr1 hr2 hr3 jN _ _ _ _ _
  · refine J_aload_n dX2_readLevel_5 rfl ?_
    refine J_iload_n dX2_readLevel_6 rfl ?_
    refine J_callV_w (M' := m2_readSingle) (as := [_]) dX2_readLevel_7 lX2_52 sm2_readSingle sm2_readSingle_w jo_cPl_61 hci_X2 (by omega) rfl (Nat.le_of_ble_eq_true rfl) (hr1 _ _) (fun r33 => ?_)
    refine JF_chk (fun c34 => ?_)
    exact J_zret dX2_readLevel_10 rfl c34 rfl
set_option maxRecDepth 20000 in
theorem c2_readSingle_b61 (k : Nat) (r0 : Int32 → Int32 → JMu → Option (Int32 × JMu)) (r1 : Int32 → JMu → Option (Int32 × JMu)) (r2 : Int32 → JMu → Option (Int32 × JMu)) (r3 : Int32 → JMu → Option (Int32 × JMu)) (hr0 : ∀ (a1 : Int32) (a2 : Int32) (μ : JMu) (b : Int32 × JMu), r0 a1 a2 μ = some b → JC m2_readLevel (3 + k) cPl [.ref 61, .int a1, .int a2] μ (some (.int b.1), b.2)) (hr1 : ∀ (a1 : Int32) (μ : JMu) (b : Int32 × JMu), r1 a1 μ = some b → JC m2_readSingle (3 + k) cPl [.ref 61, .int a1] μ (some (.int b.1), b.2)) (hr2 : ∀ (a1 : Int32) (μ : JMu) (b : Int32 × JMu), r2 a1 μ = some b → JC m2_readNot (3 + k) cPl [.ref 61, .int a1] μ (some (.int b.1), b.2)) (hr3 : ∀ (a1 : Int32) (μ : JMu) (b : Int32 × JMu), r3 a1 μ = some b → JC m2_readClosed (3 + k) cPl [.ref 61, .int a1] μ (some (.int b.1), b.2)) (v1 : Int32) (v2 : Int32) (μ : JMu) : JF m2_readSingle (3 + k + 1) cPl (fun b : Int32 × JMu => (some (.int b.1), b.2)) 61 [some (.ref 61), some (.int (v1)), some (.int (v2)), none] [] μ (f2_readSingle_b61 r0 r1 r2 r3 v1 v2 μ) := by
  unfold f2_readSingle_b61
  refine J_iload_n dX2_readSingle_61 rfl ?_
  refine J_iconst dX2_readSingle_62 (v := (5 : Int32)) rfl ?_
  refine J_icmp_lt dX2_readSingle_63 (tgt := 68) (by decide) (fun c16 => ?_) (fun c16 => ?_)
  · refine J_aload_n dX2_readSingle_68 rfl ?_
    refine J_dup dX2_readSingle_69 rfl ?_
    refine J_getI dX2_readSingle_70 wX2_34 rfl jo_cPl_61 ?_
    refine J_iconst dX2_readSingle_73 (v := (1 : Int32)) rfl ?_
    refine J_iadd dX2_readSingle_74 ?_
    refine J_putI dX2_readSingle_75 wX2_34 rfl jo_cPl_61 ?_
    refine J_iload_n dX2_readSingle_78 rfl ?_
    refine J_bipush dX2_readSingle_79 (v := (33 : Int32)) rfl ?_
    refine J_icmp_ne dX2_readSingle_81 (tgt := 94) (by decide) (fun c17 => ?_) (fun c17 => ?_)
    · refine J_aload_n dX2_readSingle_84 rfl ?_
      refine J_iload_n dX2_readSingle_85 rfl ?_
      refine J_iconst dX2_readSingle_86 (v := (1 : Int32)) rfl ?_
      refine J_iadd dX2_readSingle_87 ?_
      refine J_callV_w (M' := m2_readNot) (as := [_]) dX2_readSingle_88 lX2_74 sm2_readNot sm2_readNot_w jo_cPl_61 hci_X2 (by omega) rfl (Nat.le_of_ble_eq_true rfl) (hr2 _ _) (fun r20 => ?_)
      refine J_goto dX2_readSingle_91 (tgt := 101) (by decide) ?_
      refine JF_chk (fun c21 => ?_)
      exact J_zret dX2_readSingle_101 rfl c21 rfl
    · refine J_aload_n dX2_readSingle_94 rfl ?_
      refine J_iload_n dX2_readSingle_95 rfl ?_
      refine J_iconst dX2_readSingle_96 (v := (1 : Int32)) rfl ?_
      refine J_iadd dX2_readSingle_97 ?_
      refine J_callV_w (M' := m2_readClosed) (as := [_]) dX2_readSingle_98 lX2_77 sm2_readClosed sm2_readClosed_w jo_cPl_61 hci_X2 (by omega) rfl (Nat.le_of_ble_eq_true rfl) (hr3 _ _) (fun r18 => ?_)
      refine JF_chk (fun c19 => ?_)
      exact J_zret dX2_readSingle_101 rfl c19 rfl
  · refine J_iconst dX2_readSingle_66 (v := (0 : Int32)) rfl ?_
    exact J_zret dX2_readSingle_67 rfl (Or.inl rfl) rfl
set_option maxRecDepth 20000 in
theorem c2_readSingle_o (k : Nat) (r0 : Int32 → Int32 → JMu → Option (Int32 × JMu)) (r1 : Int32 → JMu → Option (Int32 × JMu)) (r2 : Int32 → JMu → Option (Int32 × JMu)) (r3 : Int32 → JMu → Option (Int32 × JMu)) (hr0 : ∀ (a1 : Int32) (a2 : Int32) (μ : JMu) (b : Int32 × JMu), r0 a1 a2 μ = some b → JC m2_readLevel (3 + k) cPl [.ref 61, .int a1, .int a2] μ (some (.int b.1), b.2)) (hr1 : ∀ (a1 : Int32) (μ : JMu) (b : Int32 × JMu), r1 a1 μ = some b → JC m2_readSingle (3 + k) cPl [.ref 61, .int a1] μ (some (.int b.1), b.2)) (hr2 : ∀ (a1 : Int32) (μ : JMu) (b : Int32 × JMu), r2 a1 μ = some b → JC m2_readNot (3 + k) cPl [.ref 61, .int a1] μ (some (.int b.1), b.2)) (hr3 : ∀ (a1 : Int32) (μ : JMu) (b : Int32 × JMu), r3 a1 μ = some b → JC m2_readClosed (3 + k) cPl [.ref 61, .int a1] μ (some (.int b.1), b.2)) (a1 : Int32) (μ : JMu) : ∀ b, f2_readSingle_o r0 r1 r2 r3 a1 μ = some b → JC m2_readSingle (3 + k + 1) cPl [.ref 61, .int (a1)] μ (some (.int b.1), b.2) := by
  refine JC_of (emb := (fun b : Int32 × JMu => (some (.int b.1), b.2))) (L0 := [some (.ref 61), some (.int (a1)), none, none]) sm2_readSingle (Nat.le_of_ble_eq_true rfl) rfl ?_
  unfold f2_readSingle_o
  refine J_aload_n dX2_readSingle_0 rfl ?_
  refine J_callV_i (M' := m2_here) (as := []) dX2_readSingle_1 lX2_55 sm2_here sm2_here_w jo_cPl_61 hci_X2 (by omega) rfl (Nat.le_of_ble_eq_true rfl) (c2_here  _) (fun r22 => ?_)
  refine J_istore_n dX2_readSingle_4  (by decide) rfl ?_
  refine J_iload_n dX2_readSingle_5 rfl ?_
  refine J_callS_i (M' := m2_isDigit) (as := [_]) dX2_readSingle_6 lX2_65 sm2_isDigit sm2_isDigit_w (by omega) rfl (Nat.le_of_ble_eq_true rfl) (c2_isDigit _ _) (fun r23 => ?_)
  refine J_if_eq dX2_readSingle_9 (tgt := 18) (by decide) (fun c24 => ?_) (fun c24 => ?_)
  · refine J_aload_n dX2_readSingle_18 rfl ?_
    refine J_iload_n dX2_readSingle_19 rfl ?_
    refine J_callV_i (M' := m2_nameOf) (as := [_]) dX2_readSingle_20 lX2_71 sm2_nameOf sm2_nameOf_w jo_cPl_61 hci_X2 (by omega) rfl (Nat.le_of_ble_eq_true rfl) (c2_nameOf _ _) (fun r25 => ?_)
    refine J_istore_n dX2_readSingle_23  (by decide) rfl ?_
    refine J_iload_n dX2_readSingle_24 rfl ?_
    refine J_if_eq dX2_readSingle_25 (tgt := 49) (by decide) (fun c26 => ?_) (fun c26 => ?_)
    · refine J_iload_n dX2_readSingle_49 rfl ?_
      refine J_bipush dX2_readSingle_50 (v := (33 : Int32)) rfl ?_
      refine J_icmp_eq dX2_readSingle_52 (tgt := 61) (by decide) (fun c27 => ?_) (fun c27 => ?_)
      · refine JF_drop [3] ?_
        exact c2_readSingle_b61 k r0 r1 r2 r3 hr0 hr1 hr2 hr3 _ _ _
      · refine J_iload_n dX2_readSingle_55 rfl ?_
        refine J_bipush dX2_readSingle_56 (v := (40 : Int32)) rfl ?_
        refine J_icmp_ne dX2_readSingle_58 (tgt := 66) (by decide) (fun c28 => ?_) (fun c28 => ?_)
        · refine JF_drop [3] ?_
          exact c2_readSingle_b61 k r0 r1 r2 r3 hr0 hr1 hr2 hr3 _ _ _
        · refine J_iconst dX2_readSingle_66 (v := (0 : Int32)) rfl ?_
          exact J_zret dX2_readSingle_67 rfl (Or.inl rfl) rfl
    · refine J_aload_n dX2_readSingle_28 rfl ?_
      refine J_dup dX2_readSingle_29 rfl ?_
      refine J_getI dX2_readSingle_30 wX2_34 rfl jo_cPl_61 ?_
      refine J_iconst dX2_readSingle_33 (v := (1 : Int32)) rfl ?_
      refine J_iadd dX2_readSingle_34 ?_
      refine J_putI dX2_readSingle_35 wX2_34 rfl jo_cPl_61 ?_
      refine J_aload_n dX2_readSingle_38 rfl ?_
      refine J_getR dX2_readSingle_39 wX2_20 rfl jo_cPl_61 jr_61_1 ?_
      refine J_iload_n dX2_readSingle_42 rfl ?_
      refine J_callV_w (M' := m3_add) (as := [_]) dX2_readSingle_43 lX2_62 sm3_add sm3_add_w jo_cPl_64 hci_X3 (by omega) rfl (Nat.le_of_ble_eq_true rfl) (c3_add _ _ _) (fun r29 => ?_)
      refine J_pop dX2_readSingle_46 rfl ?_
      refine J_iconst dX2_readSingle_47 (v := (1 : Int32)) rfl ?_
      exact J_zret dX2_readSingle_48 rfl (Or.inr rfl) rfl
  · refine J_aload_n dX2_readSingle_12 rfl ?_
    refine J_callV_v (M' := m2_readNumber) (as := []) dX2_readSingle_13 lX2_68 sm2_readNumber sm2_readNumber_w jo_cPl_61 hci_X2 (by omega) rfl (Nat.le_of_ble_eq_true rfl) (c2_readNumber  _) (fun r30 => ?_)
    refine J_iconst dX2_readSingle_16 (v := (1 : Int32)) rfl ?_
    exact J_zret dX2_readSingle_17 rfl (Or.inr rfl) rfl
set_option maxRecDepth 20000 in
theorem c2_readNot_o (k : Nat) (r0 : Int32 → Int32 → JMu → Option (Int32 × JMu)) (r1 : Int32 → JMu → Option (Int32 × JMu)) (r2 : Int32 → JMu → Option (Int32 × JMu)) (r3 : Int32 → JMu → Option (Int32 × JMu)) (hr0 : ∀ (a1 : Int32) (a2 : Int32) (μ : JMu) (b : Int32 × JMu), r0 a1 a2 μ = some b → JC m2_readLevel (3 + k) cPl [.ref 61, .int a1, .int a2] μ (some (.int b.1), b.2)) (hr1 : ∀ (a1 : Int32) (μ : JMu) (b : Int32 × JMu), r1 a1 μ = some b → JC m2_readSingle (3 + k) cPl [.ref 61, .int a1] μ (some (.int b.1), b.2)) (hr2 : ∀ (a1 : Int32) (μ : JMu) (b : Int32 × JMu), r2 a1 μ = some b → JC m2_readNot (3 + k) cPl [.ref 61, .int a1] μ (some (.int b.1), b.2)) (hr3 : ∀ (a1 : Int32) (μ : JMu) (b : Int32 × JMu), r3 a1 μ = some b → JC m2_readClosed (3 + k) cPl [.ref 61, .int a1] μ (some (.int b.1), b.2)) (a1 : Int32) (μ : JMu) : ∀ b, f2_readNot_o r0 r1 r2 r3 a1 μ = some b → JC m2_readNot (3 + k + 1) cPl [.ref 61, .int (a1)] μ (some (.int b.1), b.2) := by
  refine JC_of (emb := (fun b : Int32 × JMu => (some (.int b.1), b.2))) (L0 := [some (.ref 61), some (.int (a1)), none]) sm2_readNot (Nat.le_of_ble_eq_true rfl) rfl ?_
  unfold f2_readNot_o
  refine J_aload_n dX2_readNot_0 rfl ?_
  refine J_iload_n dX2_readNot_1 rfl ?_
  refine J_callV_w (M' := m2_readSingle) (as := [_]) dX2_readNot_2 lX2_52 sm2_readSingle sm2_readSingle_w jo_cPl_61 hci_X2 (by omega) rfl (Nat.le_of_ble_eq_true rfl) (hr1 _ _) (fun r4 => ?_)
  refine J_istore_n dX2_readNot_5  (by decide) rfl ?_
  refine J_aload_n dX2_readNot_6 rfl ?_
  refine J_getR dX2_readNot_7 wX2_20 rfl jo_cPl_61 jr_61_1 ?_
  refine J_bipush dX2_readNot_10 (v := (-33 : Int32)) rfl ?_
  refine J_callV_w (M' := m3_add) (as := [_]) dX2_readNot_12 lX2_62 sm3_add sm3_add_w jo_cPl_64 hci_X3 (by omega) rfl (Nat.le_of_ble_eq_true rfl) (c3_add _ _ _) (fun r5 => ?_)
  refine J_pop dX2_readNot_15 rfl ?_
  refine J_iload_n dX2_readNot_16 rfl ?_
  refine JF_chk (fun c6 => ?_)
  exact J_zret dX2_readNot_17 rfl c6 rfl
set_option maxRecDepth 20000 in
theorem c2_readClosed_o (k : Nat) (r0 : Int32 → Int32 → JMu → Option (Int32 × JMu)) (r1 : Int32 → JMu → Option (Int32 × JMu)) (r2 : Int32 → JMu → Option (Int32 × JMu)) (r3 : Int32 → JMu → Option (Int32 × JMu)) (hr0 : ∀ (a1 : Int32) (a2 : Int32) (μ : JMu) (b : Int32 × JMu), r0 a1 a2 μ = some b → JC m2_readLevel (3 + k) cPl [.ref 61, .int a1, .int a2] μ (some (.int b.1), b.2)) (hr1 : ∀ (a1 : Int32) (μ : JMu) (b : Int32 × JMu), r1 a1 μ = some b → JC m2_readSingle (3 + k) cPl [.ref 61, .int a1] μ (some (.int b.1), b.2)) (hr2 : ∀ (a1 : Int32) (μ : JMu) (b : Int32 × JMu), r2 a1 μ = some b → JC m2_readNot (3 + k) cPl [.ref 61, .int a1] μ (some (.int b.1), b.2)) (hr3 : ∀ (a1 : Int32) (μ : JMu) (b : Int32 × JMu), r3 a1 μ = some b → JC m2_readClosed (3 + k) cPl [.ref 61, .int a1] μ (some (.int b.1), b.2)) (a1 : Int32) (μ : JMu) : ∀ b, f2_readClosed_o r0 r1 r2 r3 a1 μ = some b → JC m2_readClosed (3 + k + 1) cPl [.ref 61, .int (a1)] μ (some (.int b.1), b.2) := by
  refine JC_of (emb := (fun b : Int32 × JMu => (some (.int b.1), b.2))) (L0 := [some (.ref 61), some (.int (a1))]) sm2_readClosed (Nat.le_of_ble_eq_true rfl) rfl ?_
  unfold f2_readClosed_o
  refine J_aload_n dX2_readClosed_0 rfl ?_
  refine J_iconst dX2_readClosed_1 (v := (0 : Int32)) rfl ?_
  refine J_iload_n dX2_readClosed_2 rfl ?_
  refine J_callV_w (M' := m2_readLevel) (as := [_, _]) dX2_readClosed_3 lX2_37 sm2_readLevel sm2_readLevel_w jo_cPl_61 hci_X2 (by omega) rfl (Nat.le_of_ble_eq_true rfl) (hr0 _ _ _) (fun r5 => ?_)
  refine J_if_eq dX2_readClosed_6 (tgt := 18) (by decide) (fun c6 => ?_) (fun c6 => ?_)
  · refine J_iconst dX2_readClosed_18 (v := (0 : Int32)) rfl ?_
    exact J_zret dX2_readClosed_19 rfl (Or.inl rfl) rfl
  · refine J_aload_n dX2_readClosed_9 rfl ?_
    refine J_callV_i (M' := m2_here) (as := []) dX2_readClosed_10 lX2_55 sm2_here sm2_here_w jo_cPl_61 hci_X2 (by omega) rfl (Nat.le_of_ble_eq_true rfl) (c2_here  _) (fun r7 => ?_)
    refine J_bipush dX2_readClosed_13 (v := (41 : Int32)) rfl ?_
    refine J_icmp_eq dX2_readClosed_15 (tgt := 20) (by decide) (fun c8 => ?_) (fun c8 => ?_)
    · refine J_aload_n dX2_readClosed_20 rfl ?_
      refine J_dup dX2_readClosed_21 rfl ?_
      refine J_getI dX2_readClosed_22 wX2_34 rfl jo_cPl_61 ?_
      refine J_iconst dX2_readClosed_25 (v := (1 : Int32)) rfl ?_
      refine J_iadd dX2_readClosed_26 ?_
      refine J_putI dX2_readClosed_27 wX2_34 rfl jo_cPl_61 ?_
      refine J_iconst dX2_readClosed_30 (v := (1 : Int32)) rfl ?_
      exact J_zret dX2_readClosed_31 rfl (Or.inr rfl) rfl
    · refine J_iconst dX2_readClosed_18 (v := (0 : Int32)) rfl ?_
      exact J_zret dX2_readClosed_19 rfl (Or.inl rfl) rfl
theorem cgf2_readLevel : ∀ k : Nat, (∀ (a1 : Int32) (a2 : Int32) (μ : JMu) (b : Int32 × JMu), (gf2_readLevel k).1 a1 a2 μ = some b → JC m2_readLevel (3 + k) cPl [.ref 61, .int a1, .int a2] μ (some (.int b.1), b.2)) ∧ (∀ (a1 : Int32) (μ : JMu) (b : Int32 × JMu), (gf2_readLevel k).2.1 a1 μ = some b → JC m2_readSingle (3 + k) cPl [.ref 61, .int a1] μ (some (.int b.1), b.2)) ∧ (∀ (a1 : Int32) (μ : JMu) (b : Int32 × JMu), (gf2_readLevel k).2.2.1 a1 μ = some b → JC m2_readNot (3 + k) cPl [.ref 61, .int a1] μ (some (.int b.1), b.2)) ∧ (∀ (a1 : Int32) (μ : JMu) (b : Int32 × JMu), (gf2_readLevel k).2.2.2 a1 μ = some b → JC m2_readClosed (3 + k) cPl [.ref 61, .int a1] μ (some (.int b.1), b.2)) := by
  intro k
  induction k with
  | zero => exact ⟨fun _ _ _ _ h => (by cases h), fun _ _ _ h => (by cases h), fun _ _ _ h => (by cases h), fun _ _ _ h => (by cases h)⟩
  | succ k ih =>
    exact ⟨fun x0 x1 μ b h => c2_readLevel_o k _ _ _ _ (ih.1) (ih.2.1) (ih.2.2.1) (ih.2.2.2) x0 x1 μ b h, fun x0 μ b h => c2_readSingle_o k _ _ _ _ (ih.1) (ih.2.1) (ih.2.2.1) (ih.2.2.2) x0 μ b h, fun x0 μ b h => c2_readNot_o k _ _ _ _ (ih.1) (ih.2.1) (ih.2.2.1) (ih.2.2.2) x0 μ b h, fun x0 μ b h => c2_readClosed_o k _ _ _ _ (ih.1) (ih.2.1) (ih.2.2.1) (ih.2.2.2) x0 μ b h⟩
theorem c2_readLevel : ∀ (a1 : Int32) (a2 : Int32) (μ : JMu) (b : Int32 × JMu), f2_readLevel a1 a2 μ = some b → JC m2_readLevel (3 + jK) cPl [.ref 61, .int a1, .int a2] μ (some (.int b.1), b.2) := (cgf2_readLevel jK).1
theorem c2_readSingle : ∀ (a1 : Int32) (μ : JMu) (b : Int32 × JMu), f2_readSingle a1 μ = some b → JC m2_readSingle (3 + jK) cPl [.ref 61, .int a1] μ (some (.int b.1), b.2) := (cgf2_readLevel jK).2.1
theorem c2_readNot : ∀ (a1 : Int32) (μ : JMu) (b : Int32 × JMu), f2_readNot a1 μ = some b → JC m2_readNot (3 + jK) cPl [.ref 61, .int a1] μ (some (.int b.1), b.2) := (cgf2_readLevel jK).2.2.1
theorem c2_readClosed : ∀ (a1 : Int32) (μ : JMu) (b : Int32 × JMu), f2_readClosed a1 μ = some b → JC m2_readClosed (3 + jK) cPl [.ref 61, .int a1] μ (some (.int b.1), b.2) := (cgf2_readLevel jK).2.2.2
set_option maxRecDepth 20000 in
theorem c2_read (a1 : Nat) (a2 : Int32) (μ : JMu) : ∀ b, f2_read a1 a2 μ = some b → JC m2_read 104 cPl [.ref 61, .ref a1, .int (a2)] μ (some (.int b.1), b.2) := by
  refine JC_of (emb := (fun b : Int32 × JMu => (some (.int b.1), b.2))) (L0 := [some (.ref 61), some (.ref a1), some (.int (a2)), none]) sm2_read (Nat.le_of_ble_eq_true rfl) rfl ?_
  unfold f2_read
  refine JF_chk (fun o_a1 => ?_)
  refine J_aload_n dX2_read_0 rfl ?_
  refine J_getR dX2_read_1 wX2_14 rfl jo_cPl_61 jr_61_0 ?_
  refine J_aload_n dX2_read_4 rfl ?_
  refine J_callV_v (M' := m3_copyFrom) (as := [_]) dX2_read_5 lX2_23 sm3_copyFrom sm3_copyFrom_w jo_cPl_62 hci_X3 (by decide) rfl (Nat.le_of_ble_eq_true rfl) (c3_copyFrom _ _ _) (fun r6 => ?_)
  refine J_aload_n dX2_read_8 rfl ?_
  refine J_getR dX2_read_9 wX2_20 rfl jo_cPl_61 jr_61_1 ?_
  refine J_callV_v (M' := m3_empty) (as := []) dX2_read_12 lX2_27 sm3_empty sm3_empty_w jo_cPl_64 hci_X3 (by decide) rfl (Nat.le_of_ble_eq_true rfl) (c3_empty _ _) (fun r7 => ?_)
  refine J_aload_n dX2_read_15 rfl ?_
  refine J_iload_n dX2_read_16 rfl ?_
  refine J_putI dX2_read_17 wX2_30 rfl jo_cPl_61 ?_
  refine J_aload_n dX2_read_20 rfl ?_
  refine J_iconst dX2_read_21 (v := (0 : Int32)) rfl ?_
  refine J_putI dX2_read_22 wX2_34 rfl jo_cPl_61 ?_
  refine J_aload_n dX2_read_25 rfl ?_
  refine J_iconst dX2_read_26 (v := (0 : Int32)) rfl ?_
  refine J_iconst dX2_read_27 (v := (0 : Int32)) rfl ?_
  refine J_callV_w (M' := m2_readLevel) (as := [_, _]) dX2_read_28 lX2_37 sm2_readLevel sm2_readLevel_w jo_cPl_61 hci_X2 (by decide) rfl (Nat.le_of_ble_eq_true rfl) (c2_readLevel _ _ _) (fun r8 => ?_)
  refine J_istore_n dX2_read_31  (by decide) rfl ?_
  refine J_iload_n dX2_read_32 rfl ?_
  refine J_if_eq dX2_read_33 (tgt := 54) (by decide) (fun c9 => ?_) (fun c9 => ?_)
  · refine J_aload_n dX2_read_54 rfl ?_
    refine J_getI dX2_read_55 wX2_34 rfl jo_cPl_61 ?_
    exact J_iret dX2_read_58 rfl rfl
  · refine J_aload_n dX2_read_36 rfl ?_
    refine J_getI dX2_read_37 wX2_34 rfl jo_cPl_61 ?_
    refine J_aload_n dX2_read_40 rfl ?_
    refine J_getR dX2_read_41 wX2_14 rfl jo_cPl_61 jr_61_0 ?_
    refine J_getI dX2_read_44 wX2_41 rfl jo_cPl_62 ?_
    refine J_icmp_lt dX2_read_47 (tgt := 54) (by decide) (fun c10 => ?_) (fun c10 => ?_)
    · refine J_aload_n dX2_read_54 rfl ?_
      refine J_getI dX2_read_55 wX2_34 rfl jo_cPl_61 ?_
      exact J_iret dX2_read_58 rfl rfl
    · refine J_iconst dX2_read_50 (v := (-1 : Int32)) rfl ?_
      refine J_goto dX2_read_51 (tgt := 58) (by decide) ?_
      exact J_iret dX2_read_58 rfl rfl
set_option maxRecDepth 20000 in
theorem c3_set (h : Nat) (a1 : Int32) (a2 : Int32) (μ : JMu) : ∀ b, f3_set h a1 a2 μ = some b → JC m3_set 1 cPl [.ref h, .int (a1), .int (a2)] μ (none, b) := by
  refine JC_of (emb := (fun b : JMu => (none, b))) (L0 := [some (.ref h), some (.int (a1)), some (.int (a2))]) sm3_set (Nat.le_of_ble_eq_true rfl) rfl ?_
  unfold f3_set
  refine JF_chk (fun o_h => ?_)
  refine J_aload_n dX3_set_0 rfl ?_
  refine J_iload_n dX3_set_1 rfl ?_
  refine J_callV_i (M' := m3_has) (as := [_]) dX3_set_2 lX3_23 sm3_has sm3_has_w o_h hci_X3 (by decide) rfl (Nat.le_of_ble_eq_true rfl) (c3_has _ _ _) (fun r5 => ?_)
  refine J_if_eq dX3_set_5 (tgt := 15) (by decide) (fun c6 => ?_) (fun c6 => ?_)
  · exact J_vret dX3_set_15 rfl rfl
  · refine J_aload_n dX3_set_8 rfl ?_
    refine J_getR dX3_set_9 wX3_13 rfl o_h rfl ?_
    refine J_iload_n dX3_set_12 rfl ?_
    refine J_iload_n dX3_set_13 rfl ?_
    refine JF_chk (fun o7 => ?_)
    refine JF_chk (fun c8 => ?_)
    refine J_iast dX3_set_14 o7 rfl (jin_spec c8) rfl ?_
    exact J_vret dX3_set_15 rfl rfl
set_option maxRecDepth 20000 in
theorem c3_fillWithNone_b19 (h : Nat) (o_h : jO cPl h 3 = true) (n : Nat) : ∀ (v2 : Int32) (μ : JMu), JF m3_fillWithNone 1 cPl (fun b : JMu => (none, b)) 19 [some (.ref h), none, some (.int (v2))] [] μ (f3_fillWithNone_b19 h n v2 μ) := by
  induction n with
  | zero => intros; exact JF_none
  | succ n ih =>
    intro v2 μ
    rw [f3_fillWithNone_b19]
    refine J_iload_n dX3_fillWithNone_19 rfl ?_
    refine J_aload_n dX3_fillWithNone_20 rfl ?_
    refine J_getR dX3_fillWithNone_21 wX3_13 rfl o_h rfl ?_
    refine JF_chk (fun o5 => ?_)
    refine J_alen dX3_fillWithNone_24 o5 rfl rfl ?_
    refine J_icmp_ge dX3_fillWithNone_25 (tgt := 41) (by decide) (fun c6 => ?_) (fun c6 => ?_)
    · exact J_vret dX3_fillWithNone_41 rfl rfl
    · refine J_aload_n dX3_fillWithNone_28 rfl ?_
      refine J_getR dX3_fillWithNone_29 wX3_13 rfl o_h rfl ?_
      refine J_iload_n dX3_fillWithNone_32 rfl ?_
      refine J_iconst dX3_fillWithNone_33 (v := (0 : Int32)) rfl ?_
      refine JF_chk (fun c7 => ?_)
      refine J_iast dX3_fillWithNone_34 o5 rfl (jin_spec c7) rfl ?_
      refine J_iinc dX3_fillWithNone_35 rfl (c0 := (1 : Int32)) rfl (by decide) rfl ?_
      refine J_goto dX3_fillWithNone_38 (tgt := 19) (by decide) ?_
      exact ih _ _
set_option maxRecDepth 20000 in
theorem c3_fillWithNone (h : Nat) (a1 : Int32) (μ : JMu) : ∀ b, f3_fillWithNone h a1 μ = some b → JC m3_fillWithNone 1 cPl [.ref h, .int (a1)] μ (none, b) := by
  refine JC_of (emb := (fun b : JMu => (none, b))) (L0 := [some (.ref h), some (.int (a1)), none]) sm3_fillWithNone (Nat.le_of_ble_eq_true rfl) rfl ?_
  unfold f3_fillWithNone
  refine JF_chk (fun o_h => ?_)
  refine J_aload_n dX3_fillWithNone_0 rfl ?_
  refine J_iconst dX3_fillWithNone_1 (v := (0 : Int32)) rfl ?_
  refine J_iload_n dX3_fillWithNone_2 rfl ?_
  refine J_aload_n dX3_fillWithNone_3 rfl ?_
  refine J_getR dX3_fillWithNone_4 wX3_13 rfl o_h rfl ?_
  refine JF_chk (fun o8 => ?_)
  refine J_alen dX3_fillWithNone_7 o8 rfl rfl ?_
  refine J_min dX3_fillWithNone_8 lX3_27 wm_min_s wm_i wm_min_c (by decide) (Nat.le_of_ble_eq_true rfl) ?_
  refine J_max dX3_fillWithNone_11 lX3_7 wm_max_s wm_i wm_max_c (by decide) (Nat.le_of_ble_eq_true rfl) ?_
  refine J_putI dX3_fillWithNone_14 wX3_19 rfl o_h ?_
  refine J_iconst dX3_fillWithNone_17 (v := (0 : Int32)) rfl ?_
  refine J_istore_n dX3_fillWithNone_18  (by decide) rfl ?_
  refine JF_drop [1] ?_
  exact c3_fillWithNone_b19 h o_h jN _ _
set_option maxRecDepth 20000 in
theorem c4_lowestBits (h : Nat) (a1 : Int32) (μ : JMu) : ∀ b, f4_lowestBits h a1 μ = some b → JC m4_lowestBits 0 cPl [.ref h, .int (a1)] μ (some (.int b), μ) := by
  refine JC_of (emb := (fun b : Int32 => (some (.int b), μ))) (L0 := [some (.ref h), some (.int (a1))]) sm4_lowestBits (Nat.le_of_ble_eq_true rfl) rfl ?_
  unfold f4_lowestBits
  refine JF_chk (fun o_h => ?_)
  refine J_aload_n dX4_lowestBits_0 rfl ?_
  refine J_getI dX4_lowestBits_1 wX4_20 rfl o_h ?_
  refine J_bipush dX4_lowestBits_4 (v := (8 : Int32)) rfl ?_
  refine J_icmp_ne dX4_lowestBits_6 (tgt := 12) (by decide) (fun c3 => ?_) (fun c3 => ?_)
  · refine J_iload_n dX4_lowestBits_9 rfl ?_
    refine J_i2b dX4_lowestBits_10 ?_
    exact J_iret dX4_lowestBits_11 rfl rfl
  · refine J_aload_n dX4_lowestBits_12 rfl ?_
    refine J_getI dX4_lowestBits_13 wX4_20 rfl o_h ?_
    refine J_bipush dX4_lowestBits_16 (v := (16 : Int32)) rfl ?_
    refine J_icmp_ne dX4_lowestBits_18 (tgt := 26) (by decide) (fun c4 => ?_) (fun c4 => ?_)
    · refine J_iload_n dX4_lowestBits_21 rfl ?_
      refine J_i2s dX4_lowestBits_22 ?_
      refine J_goto dX4_lowestBits_23 (tgt := 27) (by decide) ?_
      exact J_iret dX4_lowestBits_27 rfl rfl
    · refine J_iload_n dX4_lowestBits_26 rfl ?_
      exact J_iret dX4_lowestBits_27 rfl rfl
set_option maxRecDepth 20000 in
theorem c5_bodyOf_b55 (μ : JMu) (k4 : Int32 → Int32 → Int32 → Option (Int32)) (hk4 : ∀ (v1 : Int32) (v2 : Int32) (v3 : Int32), JF m5_bodyOf 0 cPl (fun b : Int32 => (some (.int b), μ)) 4 [none, some (.int (v1)), some (.int (v2)), some (.int (v3)), none, none] [] μ (k4 v1 v2 v3)) (v1 : Int32) (v2 : Int32) (v3 : Int32) (s0 : Int32) : JF m5_bodyOf 0 cPl (fun b : Int32 => (some (.int b), μ)) 55 [none, some (.int (v1)), some (.int (v2)), some (.int (v3)), none, none] [.int (s0)] μ (f5_bodyOf_b55 k4 v1 v2 v3 s0) := by
  unfold f5_bodyOf_b55
  refine J_istore dX5_bodyOf_55  (by decide) rfl ?_
  refine J_iload dX5_bodyOf_57 rfl ?_
  refine J_if_eq dX5_bodyOf_59 (tgt := 65) (by decide) (fun c9 => ?_) (fun c9 => ?_)
  · refine J_getsAN dX5_bodyOf_65 gX5_41 ?_
    refine J_iload_n dX5_bodyOf_68 rfl ?_
    refine JF_chk (fun c10 => ?_)
    refine J_ialdA dX5_bodyOf_69 (jin_spec c10) ?_
    refine J_istore_n dX5_bodyOf_70  (by decide) rfl ?_
    refine J_iinc dX5_bodyOf_71 rfl (c0 := (1 : Int32)) rfl (by decide) rfl ?_
    refine J_goto dX5_bodyOf_74 (tgt := 4) (by decide) ?_
    refine JF_drop [5] ?_
    exact hk4 _ _ _
  · refine J_iload dX5_bodyOf_62 rfl ?_
    exact J_iret dX5_bodyOf_64 rfl rfl
set_option maxRecDepth 20000 in
theorem c5_bodyOf_b54 (μ : JMu) (k4 : Int32 → Int32 → Int32 → Option (Int32)) (hk4 : ∀ (v1 : Int32) (v2 : Int32) (v3 : Int32), JF m5_bodyOf 0 cPl (fun b : Int32 => (some (.int b), μ)) 4 [none, some (.int (v1)), some (.int (v2)), some (.int (v3)), none, none] [] μ (k4 v1 v2 v3)) (v1 : Int32) (v2 : Int32) (v3 : Int32) : JF m5_bodyOf 0 cPl (fun b : Int32 => (some (.int b), μ)) 54 [none, some (.int (v1)), some (.int (v2)), some (.int (v3)), none, none] [] μ (f5_bodyOf_b54 k4 v1 v2 v3) := by
  unfold f5_bodyOf_b54
  refine J_iconst dX5_bodyOf_54 (v := (0 : Int32)) rfl ?_
  exact c5_bodyOf_b55 μ k4 hk4 _ _ _ _
set_option maxRecDepth 20000 in
theorem c5_bodyOf_b4 (μ : JMu) (n : Nat) : ∀ (v1 : Int32) (v2 : Int32) (v3 : Int32), JF m5_bodyOf 0 cPl (fun b : Int32 => (some (.int b), μ)) 4 [none, some (.int (v1)), some (.int (v2)), some (.int (v3)), none, none] [] μ (f5_bodyOf_b4 n v1 v2 v3) := by
  induction n with
  | zero => intros; exact JF_none
  | succ n ih =>
    intro v1 v2 v3
    rw [f5_bodyOf_b4]
    refine J_iload_n dX5_bodyOf_4 rfl ?_
    refine J_getsAN dX5_bodyOf_5 gX5_41 ?_
    refine J_alenA dX5_bodyOf_8 ?_
    refine J_icmp_ge dX5_bodyOf_9 (tgt := 77) (by decide) (fun c11 => ?_) (fun c11 => ?_)
    · refine J_iconst dX5_bodyOf_77 (v := (0 : Int32)) rfl ?_
      exact J_iret dX5_bodyOf_78 rfl rfl
    · refine J_iload_n dX5_bodyOf_12 rfl ?_
      refine J_if_lt dX5_bodyOf_13 (tgt := 77) (by decide) (fun c12 => ?_) (fun c12 => ?_)
      · refine J_iconst dX5_bodyOf_77 (v := (0 : Int32)) rfl ?_
        exact J_iret dX5_bodyOf_78 rfl rfl
      · refine J_iload_n dX5_bodyOf_16 rfl ?_
        refine J_getsAN dX5_bodyOf_17 gX5_41 ?_
        refine J_alenA dX5_bodyOf_20 ?_
        refine J_icmp_ge dX5_bodyOf_21 (tgt := 77) (by decide) (fun c13 => ?_) (fun c13 => ?_)
        · refine J_iconst dX5_bodyOf_77 (v := (0 : Int32)) rfl ?_
          exact J_iret dX5_bodyOf_78 rfl rfl
        · refine J_iconst dX5_bodyOf_24 (v := (4 : Int32)) rfl ?_
          refine J_iload_n dX5_bodyOf_25 rfl ?_
          refine J_imul dX5_bodyOf_26 ?_
          refine J_iload_n dX5_bodyOf_27 rfl ?_
          refine J_iadd dX5_bodyOf_28 ?_
          refine J_istore dX5_bodyOf_29  (by decide) rfl ?_
          refine J_iload dX5_bodyOf_31 rfl ?_
          refine J_if_lt dX5_bodyOf_33 (tgt := 54) (by decide) (fun c14 => ?_) (fun c14 => ?_)
          · refine JF_drop [4] ?_
            exact c5_bodyOf_b54 μ _ ih _ _ _
          · refine J_iload dX5_bodyOf_36 rfl ?_
            refine J_getsB dX5_bodyOf_38 gX5_45 ?_
            refine J_alenB dX5_bodyOf_41 ?_
            refine J_icmp_ge dX5_bodyOf_42 (tgt := 54) (by decide) (fun c15 => ?_) (fun c15 => ?_)
            · refine JF_drop [4] ?_
              exact c5_bodyOf_b54 μ _ ih _ _ _
            · refine J_getsB dX5_bodyOf_45 gX5_45 ?_
              refine J_iload dX5_bodyOf_48 rfl ?_
              refine JF_chk (fun c16 => ?_)
              refine J_ialdB dX5_bodyOf_50 (jin_spec c16) ?_
              refine J_goto dX5_bodyOf_51 (tgt := 55) (by decide) ?_
              refine JF_drop [4] ?_
              exact c5_bodyOf_b55 μ _ ih _ _ _ _
set_option maxRecDepth 20000 in
theorem c5_bodyOf (a1 : Int32) (a2 : Int32) (μ : JMu) : ∀ b, f5_bodyOf a1 a2 = some b → JC m5_bodyOf 0 cPl [.int (a1), .int (a2)] μ (some (.int b), μ) := by
  refine JC_of (emb := (fun b : Int32 => (some (.int b), μ))) (L0 := [some (.int (a1)), some (.int (a2)), none, none, none, none]) sm5_bodyOf (Nat.le_of_ble_eq_true rfl) rfl ?_
  unfold f5_bodyOf
  refine J_iload_n dX5_bodyOf_0 rfl ?_
  refine J_istore_n dX5_bodyOf_1  (by decide) rfl ?_
  refine J_iconst dX5_bodyOf_2 (v := (0 : Int32)) rfl ?_
  refine J_istore_n dX5_bodyOf_3  (by decide) rfl ?_
  refine JF_drop [0] ?_
  exact c5_bodyOf_b4 μ jN _ _ _
set_option maxRecDepth 20000 in
theorem c5_say_o (k : Nat) (r0 : Int32 → Int32 → Int32 → Int32 → JMu → Option (Int32 × JMu)) (hr0 : ∀ (a1 : Int32) (a2 : Int32) (a3 : Int32) (a4 : Int32) (μ : JMu) (b : Int32 × JMu), r0 a1 a2 a3 a4 μ = some b → JC m5_say (1 + k) cPl [.ref 66, .int a1, .int a2, .int a3, .int a4] μ (some (.int b.1), b.2)) (a1 : Int32) (a2 : Int32) (a3 : Int32) (a4 : Int32) (μ : JMu) : ∀ b, f5_say_o r0 a1 a2 a3 a4 μ = some b → JC m5_say (1 + k + 1) cPl [.ref 66, .int (a1), .int (a2), .int (a3), .int (a4)] μ (some (.int b.1), b.2) := by
  refine JC_of (emb := (fun b : Int32 × JMu => (some (.int b.1), b.2))) (L0 := [some (.ref 66), some (.int (a1)), some (.int (a2)), some (.int (a3)), some (.int (a4)), none, none]) sm5_say (Nat.le_of_ble_eq_true rfl) rfl ?_
  unfold f5_say_o
  refine J_iload dX5_say_0 rfl ?_
  refine J_bipush dX5_say_2 (v := (30 : Int32)) rfl ?_
  refine J_icmp_le dX5_say_4 (tgt := 9) (by decide) (fun c28 => ?_) (fun c28 => ?_)
  · refine J_iload_n dX5_say_9 rfl ?_
    refine J_iload_n dX5_say_10 rfl ?_
    refine J_callS_i (M' := m5_bodyOf) (as := [_, _]) dX5_say_11 lX5_48 sm5_bodyOf sm5_bodyOf_w (by omega) rfl (Nat.le_of_ble_eq_true rfl) (c5_bodyOf _ _ _) (fun r29 => ?_)
    refine J_istore dX5_say_14  (by decide) rfl ?_
    refine J_iload dX5_say_16 rfl ?_
    refine J_iconst dX5_say_18 (v := (1 : Int32)) rfl ?_
    refine J_iadd dX5_say_19 ?_
    refine J_istore dX5_say_20  (by decide) rfl ?_
    refine J_aload_n dX5_say_22 rfl ?_
    refine J_getR dX5_say_23 wX5_14 rfl jo_cPl_66 jr_66_0 ?_
    refine J_iload dX5_say_26 rfl ?_
    refine J_callV_w (M' := m3_add) (as := [_]) dX5_say_28 lX5_52 sm3_add sm3_add_w jo_cPl_67 hci_X3 (by omega) rfl (Nat.le_of_ble_eq_true rfl) (c3_add _ _ _) (fun r30 => ?_)
    refine J_pop dX5_say_31 rfl ?_
    refine J_iload dX5_say_32 rfl ?_
    refine JF_ite (fun c31 => ?_) (fun c31 => ?_)
    · refine J_look dX5_say_34 (off := 98) (tgt := 132) (by decide) (by rw [c31]; decide) (by decide) ?_
      refine J_iload_n dX5_say_132 rfl ?_
      refine J_aload_n dX5_say_133 rfl ?_
      refine J_getI dX5_say_134 wX5_34 rfl jo_cPl_66 ?_
      refine J_iadd dX5_say_137 ?_
      exact J_iret dX5_say_138 rfl rfl
    · refine JF_ite (fun c32 => ?_) (fun c32 => ?_)
      · refine J_look dX5_say_34 (off := 105) (tgt := 139) (by decide) (by rw [c32]; decide) (by decide) ?_
        refine J_aload_n dX5_say_139 rfl ?_
        refine J_aload_n dX5_say_140 rfl ?_
        refine J_getI dX5_say_141 wX5_29 rfl jo_cPl_66 ?_
        refine J_iconst dX5_say_144 (v := (0 : Int32)) rfl ?_
        refine J_iload_n dX5_say_145 rfl ?_
        refine J_iload dX5_say_146 rfl ?_
        refine J_callV_w (M' := m5_say) (as := [_, _, _, _]) dX5_say_148 lX5_37 sm5_say sm5_say_w jo_cPl_66 hci_X5 (by omega) rfl (Nat.le_of_ble_eq_true rfl) (hr0 _ _ _ _ _) (fun r33 => ?_)
        refine J_iconst dX5_say_151 (v := (2 : Int32)) rfl ?_
        refine J_imul dX5_say_152 ?_
        exact J_iret dX5_say_153 rfl rfl
      · refine JF_ite (fun c34 => ?_) (fun c34 => ?_)
        · refine J_look dX5_say_34 (off := 120) (tgt := 154) (by decide) (by rw [c34]; decide) (by decide) ?_
          refine J_iload_n dX5_say_154 rfl ?_
          refine J_aload_n dX5_say_155 rfl ?_
          refine J_getI dX5_say_156 wX5_33 rfl jo_cPl_66 ?_
          refine J_isub dX5_say_159 ?_
          exact J_iret dX5_say_160 rfl rfl
        · refine JF_ite (fun c35 => ?_) (fun c35 => ?_)
          · refine J_look dX5_say_34 (off := 127) (tgt := 161) (by decide) (by rw [c35]; decide) (by decide) ?_
            refine J_aload_n dX5_say_161 rfl ?_
            refine J_aload_n dX5_say_162 rfl ?_
            refine J_getI dX5_say_163 wX5_29 rfl jo_cPl_66 ?_
            refine J_iconst dX5_say_166 (v := (1 : Int32)) rfl ?_
            refine J_iload_n dX5_say_167 rfl ?_
            refine J_iload dX5_say_168 rfl ?_
            refine J_callV_w (M' := m5_say) (as := [_, _, _, _]) dX5_say_170 lX5_37 sm5_say sm5_say_w jo_cPl_66 hci_X5 (by omega) rfl (Nat.le_of_ble_eq_true rfl) (hr0 _ _ _ _ _) (fun r36 => ?_)
            refine J_aload_n dX5_say_173 rfl ?_
            refine J_aload_n dX5_say_174 rfl ?_
            refine J_getI dX5_say_175 wX5_29 rfl jo_cPl_66 ?_
            refine J_iconst dX5_say_178 (v := (2 : Int32)) rfl ?_
            refine J_iload_n dX5_say_179 rfl ?_
            refine J_iload dX5_say_180 rfl ?_
            refine J_callV_w (M' := m5_say) (as := [_, _, _, _]) dX5_say_182 lX5_37 sm5_say sm5_say_w jo_cPl_66 hci_X5 (by omega) rfl (Nat.le_of_ble_eq_true rfl) (hr0 _ _ _ _ _) (fun r37 => ?_)
            refine J_ixor dX5_say_185 ?_
            exact J_iret dX5_say_186 rfl rfl
          · refine JF_ite (fun c38 => ?_) (fun c38 => ?_)
            · refine J_look dX5_say_34 (off := 153) (tgt := 187) (by decide) (by rw [c38]; decide) (by decide) ?_
              refine J_aload_n dX5_say_187 rfl ?_
              refine J_iconst dX5_say_188 (v := (0 : Int32)) rfl ?_
              refine J_iconst dX5_say_189 (v := (0 : Int32)) rfl ?_
              refine J_iload_n dX5_say_190 rfl ?_
              refine J_iload dX5_say_191 rfl ?_
              refine J_callV_w (M' := m5_say) (as := [_, _, _, _]) dX5_say_193 lX5_37 sm5_say sm5_say_w jo_cPl_66 hci_X5 (by omega) rfl (Nat.le_of_ble_eq_true rfl) (hr0 _ _ _ _ _) (fun r39 => ?_)
              refine J_iconst dX5_say_196 (v := (3 : Int32)) rfl ?_
              refine J_imul dX5_say_197 ?_
              exact J_iret dX5_say_198 rfl rfl
            · refine JF_ite (fun c40 => ?_) (fun c40 => ?_)
              · refine J_look dX5_say_34 (off := 165) (tgt := 199) (by decide) (by rw [c40]; decide) (by decide) ?_
                refine J_aload_n dX5_say_199 rfl ?_
                refine J_iconst dX5_say_200 (v := (0 : Int32)) rfl ?_
                refine J_iconst dX5_say_201 (v := (2 : Int32)) rfl ?_
                refine J_iload_n dX5_say_202 rfl ?_
                refine J_iload dX5_say_203 rfl ?_
                refine J_callV_w (M' := m5_say) (as := [_, _, _, _]) dX5_say_205 lX5_37 sm5_say sm5_say_w jo_cPl_66 hci_X5 (by omega) rfl (Nat.le_of_ble_eq_true rfl) (hr0 _ _ _ _ _) (fun r41 => ?_)
                refine J_ineg dX5_say_208 ?_
                exact J_iret dX5_say_209 rfl rfl
              · refine JF_ite (fun c42 => ?_) (fun c42 => ?_)
                · refine J_look dX5_say_34 (off := 176) (tgt := 210) (by decide) (by rw [c42]; decide) (by decide) ?_
                  refine J_aload_n dX5_say_210 rfl ?_
                  refine J_iconst dX5_say_211 (v := (0 : Int32)) rfl ?_
                  refine J_iconst dX5_say_212 (v := (1 : Int32)) rfl ?_
                  refine J_iload_n dX5_say_213 rfl ?_
                  refine J_iload dX5_say_214 rfl ?_
                  refine J_callV_w (M' := m5_say) (as := [_, _, _, _]) dX5_say_216 lX5_37 sm5_say sm5_say_w jo_cPl_66 hci_X5 (by omega) rfl (Nat.le_of_ble_eq_true rfl) (hr0 _ _ _ _ _) (fun r43 => ?_)
                  refine J_aload_n dX5_say_219 rfl ?_
                  refine J_aload_n dX5_say_220 rfl ?_
                  refine J_getI dX5_say_221 wX5_29 rfl jo_cPl_66 ?_
                  refine J_iconst dX5_say_224 (v := (2 : Int32)) rfl ?_
                  refine J_iconst dX5_say_225 (v := (1 : Int32)) rfl ?_
                  refine J_iload dX5_say_226 rfl ?_
                  refine J_callV_w (M' := m5_say) (as := [_, _, _, _]) dX5_say_228 lX5_37 sm5_say sm5_say_w jo_cPl_66 hci_X5 (by omega) rfl (Nat.le_of_ble_eq_true rfl) (hr0 _ _ _ _ _) (fun r44 => ?_)
                  refine J_isub dX5_say_231 ?_
                  exact J_iret dX5_say_232 rfl rfl
                · refine JF_ite (fun c45 => ?_) (fun c45 => ?_)
                  · refine J_look dX5_say_34 (off := 199) (tgt := 233) (by decide) (by rw [c45]; decide) (by decide) ?_
                    refine J_aload_n dX5_say_233 rfl ?_
                    refine J_iconst dX5_say_234 (v := (1 : Int32)) rfl ?_
                    refine J_iconst dX5_say_235 (v := (3 : Int32)) rfl ?_
                    refine J_iload_n dX5_say_236 rfl ?_
                    refine J_iload dX5_say_237 rfl ?_
                    refine J_callV_w (M' := m5_say) (as := [_, _, _, _]) dX5_say_239 lX5_37 sm5_say sm5_say_w jo_cPl_66 hci_X5 (by omega) rfl (Nat.le_of_ble_eq_true rfl) (hr0 _ _ _ _ _) (fun r46 => ?_)
                    refine J_aload_n dX5_say_242 rfl ?_
                    refine J_aload_n dX5_say_243 rfl ?_
                    refine J_getI dX5_say_244 wX5_29 rfl jo_cPl_66 ?_
                    refine J_iconst dX5_say_247 (v := (0 : Int32)) rfl ?_
                    refine J_iconst dX5_say_248 (v := (2 : Int32)) rfl ?_
                    refine J_iload dX5_say_249 rfl ?_
                    refine J_callV_w (M' := m5_say) (as := [_, _, _, _]) dX5_say_251 lX5_37 sm5_say sm5_say_w jo_cPl_66 hci_X5 (by omega) rfl (Nat.le_of_ble_eq_true rfl) (hr0 _ _ _ _ _) (fun r47 => ?_)
                    refine J_isub dX5_say_254 ?_
                    exact J_iret dX5_say_255 rfl rfl
                  · refine JF_ite (fun c48 => ?_) (fun c48 => ?_)
                    · refine J_look dX5_say_34 (off := 222) (tgt := 256) (by decide) (by rw [c48]; decide) (by decide) ?_
                      refine J_aload_n dX5_say_256 rfl ?_
                      refine J_iconst dX5_say_257 (v := (2 : Int32)) rfl ?_
                      refine J_iconst dX5_say_258 (v := (2 : Int32)) rfl ?_
                      refine J_iload_n dX5_say_259 rfl ?_
                      refine J_iload dX5_say_260 rfl ?_
                      refine J_callV_w (M' := m5_say) (as := [_, _, _, _]) dX5_say_262 lX5_37 sm5_say sm5_say_w jo_cPl_66 hci_X5 (by omega) rfl (Nat.le_of_ble_eq_true rfl) (hr0 _ _ _ _ _) (fun r49 => ?_)
                      refine J_aload_n dX5_say_265 rfl ?_
                      refine J_getI dX5_say_266 wX5_34 rfl jo_cPl_66 ?_
                      refine J_ixor dX5_say_269 ?_
                      exact J_iret dX5_say_270 rfl rfl
                    · refine JF_ite (fun c50 => ?_) (fun c50 => ?_)
                      · refine J_look dX5_say_34 (off := 237) (tgt := 271) (by decide) (by rw [c50]; decide) (by decide) ?_
                        refine J_aload_n dX5_say_271 rfl ?_
                        refine J_aload_n dX5_say_272 rfl ?_
                        refine J_getI dX5_say_273 wX5_29 rfl jo_cPl_66 ?_
                        refine J_iconst dX5_say_276 (v := (1 : Int32)) rfl ?_
                        refine J_iload_n dX5_say_277 rfl ?_
                        refine J_iload dX5_say_278 rfl ?_
                        refine J_callV_w (M' := m5_say) (as := [_, _, _, _]) dX5_say_280 lX5_37 sm5_say sm5_say_w jo_cPl_66 hci_X5 (by omega) rfl (Nat.le_of_ble_eq_true rfl) (hr0 _ _ _ _ _) (fun r51 => ?_)
                        refine J_aload_n dX5_say_283 rfl ?_
                        refine J_iconst dX5_say_284 (v := (2 : Int32)) rfl ?_
                        refine J_iconst dX5_say_285 (v := (3 : Int32)) rfl ?_
                        refine J_iload_n dX5_say_286 rfl ?_
                        refine J_iload dX5_say_287 rfl ?_
                        refine J_callV_w (M' := m5_say) (as := [_, _, _, _]) dX5_say_289 lX5_37 sm5_say sm5_say_w jo_cPl_66 hci_X5 (by omega) rfl (Nat.le_of_ble_eq_true rfl) (hr0 _ _ _ _ _) (fun r52 => ?_)
                        refine J_isub dX5_say_292 ?_
                        exact J_iret dX5_say_293 rfl rfl
                      · refine JF_ite (fun c53 => ?_) (fun c53 => ?_)
                        · refine J_look dX5_say_34 (off := 260) (tgt := 294) (by decide) (by rw [c53]; decide) (by decide) ?_
                          refine J_aload_n dX5_say_294 rfl ?_
                          refine J_iconst dX5_say_295 (v := (3 : Int32)) rfl ?_
                          refine J_iconst dX5_say_296 (v := (1 : Int32)) rfl ?_
                          refine J_iload_n dX5_say_297 rfl ?_
                          refine J_iconst dX5_say_298 (v := (1 : Int32)) rfl ?_
                          refine J_iadd dX5_say_299 ?_
                          refine J_iload dX5_say_300 rfl ?_
                          refine J_callV_w (M' := m5_say) (as := [_, _, _, _]) dX5_say_302 lX5_37 sm5_say sm5_say_w jo_cPl_66 hci_X5 (by omega) rfl (Nat.le_of_ble_eq_true rfl) (hr0 _ _ _ _ _) (fun r54 => ?_)
                          exact J_iret dX5_say_305 rfl rfl
                        · refine J_look dX5_say_34 (off := 272) (tgt := 306) (by decide) (by show Op.lookupswitch.offset [(10, 98), (11, 105), (12, 120), (13, 127), (20, 153), (30, 165), (40, 176), (50, 199), (60, 222), (61, 237), (70, 260)] _ _ = _; rw [lv_osw c31 (k := (10 : Int32)) (a := 10) rfl, lv_osw c32 (k := (11 : Int32)) (a := 11) rfl, lv_osw c34 (k := (12 : Int32)) (a := 12) rfl, lv_osw c35 (k := (13 : Int32)) (a := 13) rfl, lv_osw c38 (k := (20 : Int32)) (a := 20) rfl, lv_osw c40 (k := (30 : Int32)) (a := 30) rfl, lv_osw c42 (k := (40 : Int32)) (a := 40) rfl, lv_osw c45 (k := (50 : Int32)) (a := 50) rfl, lv_osw c48 (k := (60 : Int32)) (a := 60) rfl, lv_osw c50 (k := (61 : Int32)) (a := 61) rfl, lv_osw c53 (k := (70 : Int32)) (a := 70) rfl]; rfl) (by decide) ?_
                          refine J_iconst dX5_say_306 (v := (0 : Int32)) rfl ?_
                          exact J_iret dX5_say_307 rfl rfl
  · refine J_iconst dX5_say_7 (v := (0 : Int32)) rfl ?_
    exact J_iret dX5_say_8 rfl rfl
theorem cgf5_say : ∀ k : Nat, (∀ (a1 : Int32) (a2 : Int32) (a3 : Int32) (a4 : Int32) (μ : JMu) (b : Int32 × JMu), (gf5_say k) a1 a2 a3 a4 μ = some b → JC m5_say (1 + k) cPl [.ref 66, .int a1, .int a2, .int a3, .int a4] μ (some (.int b.1), b.2)) := by
  intro k
  induction k with
  | zero => exact fun _ _ _ _ _ _ h => (by cases h)
  | succ k ih =>
    exact fun x0 x1 x2 x3 μ b h => c5_say_o k _ (ih) x0 x1 x2 x3 μ b h
theorem c5_say : ∀ (a1 : Int32) (a2 : Int32) (a3 : Int32) (a4 : Int32) (μ : JMu) (b : Int32 × JMu), f5_say a1 a2 a3 a4 μ = some b → JC m5_say (1 + jK) cPl [.ref 66, .int a1, .int a2, .int a3, .int a4] μ (some (.int b.1), b.2) := (cgf5_say jK)

/-! THE CHECK: its constructor -/
def μM : JMu := fun p => if p = 87 then upd (fun _ => 0) 5 1 else fun _ => 0
def aM (a2 a3 : Nat) (l : List Nat) : Nat → Nat := fun p => if p = 202 then a2 else if p = 203 then a3 else l.getD (p - 86) 0
theorem mW_0 (cA : Nat → ClassId) (a2 a3 : Nat) (h0 q1 q2 q3 q4 q5 q6 q7 q8 q9 q10 q11 q12 q13 q14 q15 : Nat) : jCell (aM a2 a3 [h0, q1, q2, q3, q4, q5, q6, q7, q8, q9, q10, q11, q12, q13, q14, q15]) cA μM 86 = .inr (9, [.ref q1, .ref q2, .ref q3, .int 0, .ref q4, .ref q5, .int 0, .int 0, .int 0, .int 0, .ref q6, .int 0, .ref q7, .ref q8, .ref q9, .ref q10, .int 0, .ref q11, .int 0, .int 0, .int 0, .int 0, .ref q12, .ref q13, .ref q14, .ref q15]) := by
  rw [jCell_O (ci := 9) (fs := [some 87, some 88, some 89, none, some 90, some 91, none, none, none, none, some 92, none, some 93, some 94, some 95, some 96, none, some 97, none, none, none, none, some 98, some 99, some 100, some 101]) rfl]
  simp only [List.mapIdx_cons, List.mapIdx_nil, jfv]
  rfl
theorem mW_all (cA : Nat → ClassId) (a2 a3 : Nat) (h0 q1 q2 q3 q4 q5 q6 q7 q8 q9 q10 q11 q12 q13 q14 q15 : Nat) : (h0, .inr (9, [.ref q1, .ref q2, .ref q3, .int 0, .ref q4, .ref q5, .int 0, .int 0, .int 0, .int 0, .ref q6, .int 0, .ref q7, .ref q8, .ref q9, .ref q10, .int 0, .ref q11, .int 0, .int 0, .int 0, .int 0, .ref q12, .ref q13, .ref q14, .ref q15])) :: jW (aM a2 a3 [h0, q1, q2, q3, q4, q5, q6, q7, q8, q9, q10, q11, q12, q13, q14, q15]) cA μM [87, 88, 89, 90, 91, 92, 93, 94, 95, 96, 97, 98, 99, 100, 101] = jW (aM a2 a3 [h0, q1, q2, q3, q4, q5, q6, q7, q8, q9, q10, q11, q12, q13, q14, q15]) cA μM mPl := by
  rw [← mW_0 cA a2 a3 h0 q1 q2 q3 q4 q5 q6 q7 q8 q9 q10 q11 q12 q13 q14 q15]
  rfl
theorem nlX9_3 : jWd (.methodLink RX9 3 Lib.objectInit) := jWd_t4 (i := 3) rfl rfl
theorem nfX9_9 : jWd (.fieldLink RX9 9 (TX9 0).1 (TX9 0).2.1 (TX9 0).2.2.1) := jWd_t4 (i := 8) rfl rfl
theorem nfX9_13 : jWd (.fieldLink RX9 13 (TX9 1).1 (TX9 1).2.1 (TX9 1).2.2.1) := jWd_t4 (i := 9) rfl rfl
theorem nfX9_16 : jWd (.fieldLink RX9 16 (TX9 2).1 (TX9 2).2.1 (TX9 2).2.2.1) := jWd_t4 (i := 10) rfl rfl
theorem nfX9_19 : jWd (.fieldLink RX9 19 (TX9 4).1 (TX9 4).2.1 (TX9 4).2.2.1) := jWd_t4 (i := 12) rfl rfl
theorem ncX9_22 : jWd (.classLink RX9 22 "java/lang/String") := jWd_t4 (i := 4) rfl rfl
theorem nfX9_28 : jWd (.fieldLink RX9 28 (TX9 5).1 (TX9 5).2.1 (TX9 5).2.2.1) := jWd_t4 (i := 13) rfl rfl
theorem nfX9_32 : jWd (.fieldLink RX9 32 (TX9 10).1 (TX9 10).2.1 (TX9 10).2.2.1) := jWd_t4 (i := 18) rfl rfl
theorem nfX9_35 : jWd (.fieldLink RX9 35 (TX9 12).1 (TX9 12).2.1 (TX9 12).2.2.1) := jWd_t4 (i := 20) rfl rfl
theorem nfX9_38 : jWd (.fieldLink RX9 38 (TX9 13).1 (TX9 13).2.1 (TX9 13).2.2.1) := jWd_t4 (i := 21) rfl rfl
theorem nfX9_41 : jWd (.fieldLink RX9 41 (TX9 14).1 (TX9 14).2.1 (TX9 14).2.2.1) := jWd_t4 (i := 22) rfl rfl
theorem nfX9_44 : jWd (.fieldLink RX9 44 (TX9 15).1 (TX9 15).2.1 (TX9 15).2.2.1) := jWd_t4 (i := 23) rfl rfl
theorem nfX9_47 : jWd (.fieldLink RX9 47 (TX9 17).1 (TX9 17).2.1 (TX9 17).2.2.1) := jWd_t4 (i := 25) rfl rfl
theorem nfX9_50 : jWd (.fieldLink RX9 50 (TX9 22).1 (TX9 22).2.1 (TX9 22).2.2.1) := jWd_t4 (i := 30) rfl rfl
theorem nfX9_53 : jWd (.fieldLink RX9 53 (TX9 23).1 (TX9 23).2.1 (TX9 23).2.2.1) := jWd_t4 (i := 31) rfl rfl
theorem nfX9_56 : jWd (.fieldLink RX9 56 (TX9 24).1 (TX9 24).2.1 (TX9 24).2.2.1) := jWd_t4 (i := 32) rfl rfl
theorem nfX9_59 : jWd (.fieldLink RX9 59 (TX9 25).1 (TX9 25).2.1 (TX9 25).2.2.1) := jWd_t4 (i := 33) rfl rfl
section NCT
variable {ad : Nat → Nat} {cA : Nat → ClassId}
theorem nc_9 : NC ad cA m9_init 1 15 1040 9 [.null, .null, .null, .int 0, .null, .null, .int 0, .int 0, .int 0, .int 0, .null, .int 0, .null, .null, .null, .null, .int 0, .null, .int 0, .int 0, .int 0, .int 0, .null, .null, .null, .null] [] (fun h0 w => ∃ ad' : Nat → Nat, ad' 86 = h0 ∧ ad' 202 = ad 202 ∧ ad' 203 = ad 203 ∧ w = jW ad' cA μM mPl) := by
  refine NC_of (L0 := fun h0 => [some (.ref h0)]) sm9_init rfl rfl (fun x hx => absurd hx List.not_mem_nil) (fun _ => Nat.le_of_ble_eq_true rfl) (fun _ => rfl) (fun h0 => ?_)
  refine N_aload_n dX9_init_0 rfl ?_
  refine N_obj dX9_init_1 nlX9_3 no_i no_c (Nat.le_of_ble_eq_true rfl) (Nat.le_of_ble_eq_true rfl) ?_
  refine N_aload_n dX9_init_4 rfl ?_
  refine N_sipush (v := nI 210) dX9_init_5 (by decide) ?_
  refine N_newa (N := 210) dX9_init_8 na_i (by decide) (by decide) (Nat.le_of_ble_eq_true rfl) (Nat.le_of_ble_eq_true rfl) (Nat.le_of_ble_eq_true rfl) (fun q1 => ?_)
  refine N_putF (i := 0) (j := 0) (ty := .array .int) dX9_init_10 jcl_X9 nfX9_9 (by decide) rfl rfl (by decide +kernel) rfl rfl (Nat.le_of_ble_eq_true rfl) rfl ?_
  refine N_ws (ws' := [(h0, .inr (9, [.ref q1, .null, .null, .int 0, .null, .null, .int 0, .int 0, .int 0, .int 0, .null, .int 0, .null, .null, .null, .null, .int 0, .null, .int 0, .int 0, .int 0, .int 0, .null, .null, .null, .null])), (q1, .inl (cA 0, 210, .inl (fun _ => 0)))]) rfl ?_
  refine N_aload_n dX9_init_13 rfl ?_
  refine N_sipush (v := nI 210) dX9_init_14 (by decide) ?_
  refine N_newa (N := 210) dX9_init_17 na_i (by decide) (by decide) (Nat.le_of_ble_eq_true rfl) (Nat.le_of_ble_eq_true rfl) (Nat.le_of_ble_eq_true rfl) (fun q2 => ?_)
  refine N_putF (i := 0) (j := 1) (ty := .array .int) dX9_init_19 jcl_X9 nfX9_13 (by decide) rfl rfl (by decide +kernel) rfl rfl (Nat.le_of_ble_eq_true rfl) rfl ?_
  refine N_ws (ws' := [(h0, .inr (9, [.ref q1, .ref q2, .null, .int 0, .null, .null, .int 0, .int 0, .int 0, .int 0, .null, .int 0, .null, .null, .null, .null, .int 0, .null, .int 0, .int 0, .int 0, .int 0, .null, .null, .null, .null])), (q1, .inl (cA 0, 210, .inl (fun _ => 0))), (q2, .inl (cA 0, 210, .inl (fun _ => 0)))]) rfl ?_
  refine N_aload_n dX9_init_22 rfl ?_
  refine N_sipush (v := nI 210) dX9_init_23 (by decide) ?_
  refine N_newa (N := 210) dX9_init_26 na_i (by decide) (by decide) (Nat.le_of_ble_eq_true rfl) (Nat.le_of_ble_eq_true rfl) (Nat.le_of_ble_eq_true rfl) (fun q3 => ?_)
  refine N_putF (i := 0) (j := 2) (ty := .array .int) dX9_init_28 jcl_X9 nfX9_16 (by decide) rfl rfl (by decide +kernel) rfl rfl (Nat.le_of_ble_eq_true rfl) rfl ?_
  refine N_ws (ws' := [(h0, .inr (9, [.ref q1, .ref q2, .ref q3, .int 0, .null, .null, .int 0, .int 0, .int 0, .int 0, .null, .int 0, .null, .null, .null, .null, .int 0, .null, .int 0, .int 0, .int 0, .int 0, .null, .null, .null, .null])), (q1, .inl (cA 0, 210, .inl (fun _ => 0))), (q2, .inl (cA 0, 210, .inl (fun _ => 0))), (q3, .inl (cA 0, 210, .inl (fun _ => 0)))]) rfl ?_
  refine N_aload_n dX9_init_31 rfl ?_
  refine N_bipush (v := nI 6) dX9_init_32 (by decide) ?_
  refine N_newa (N := 6) dX9_init_34 na_i (by decide) (by decide) (Nat.le_of_ble_eq_true rfl) (Nat.le_of_ble_eq_true rfl) (Nat.le_of_ble_eq_true rfl) (fun q4 => ?_)
  refine N_putF (i := 0) (j := 4) (ty := .array .int) dX9_init_36 jcl_X9 nfX9_19 (by decide) rfl rfl (by decide +kernel) rfl rfl (Nat.le_of_ble_eq_true rfl) rfl ?_
  refine N_ws (ws' := [(h0, .inr (9, [.ref q1, .ref q2, .ref q3, .int 0, .ref q4, .null, .int 0, .int 0, .int 0, .int 0, .null, .int 0, .null, .null, .null, .null, .int 0, .null, .int 0, .int 0, .int 0, .int 0, .null, .null, .null, .null])), (q1, .inl (cA 0, 210, .inl (fun _ => 0))), (q2, .inl (cA 0, 210, .inl (fun _ => 0))), (q3, .inl (cA 0, 210, .inl (fun _ => 0))), (q4, .inl (cA 0, 6, .inl (fun _ => 0)))]) rfl ?_
  refine N_aload_n dX9_init_39 rfl ?_
  refine N_iconst (v := nI 2) dX9_init_40 (by decide) ?_
  refine N_newq (t := 3) (N := 2) dX9_init_41 ncX9_22 ao_G rfl (by decide) (by decide) (Nat.le_of_ble_eq_true rfl) (Nat.le_of_ble_eq_true rfl) (Nat.le_of_ble_eq_true rfl) (fun q5 => ?_)
  refine N_dup dX9_init_44 rfl ?_
  refine N_iconst (v := nI 0) dX9_init_45 (by decide) ?_
  refine N_ldcS (x := 202) dX9_init_46 (fun _ _ h => ⟨_, h.2.2.2.1⟩) ?_
  refine N_astS (i := 5) (t := 3) (N := 2) (x := 0) (u := 0) (Nat.le_of_ble_eq_true rfl) dX9_init_48 rfl rfl (Nat.le_of_ble_eq_true rfl) (Nat.le_of_ble_eq_true rfl) ?_
  refine N_ws (ws' := [(h0, .inr (9, [.ref q1, .ref q2, .ref q3, .int 0, .ref q4, .null, .int 0, .int 0, .int 0, .int 0, .null, .int 0, .null, .null, .null, .null, .int 0, .null, .int 0, .int 0, .int 0, .int 0, .null, .null, .null, .null])), (q1, .inl (cA 0, 210, .inl (fun _ => 0))), (q2, .inl (cA 0, 210, .inl (fun _ => 0))), (q3, .inl (cA 0, 210, .inl (fun _ => 0))), (q4, .inl (cA 0, 6, .inl (fun _ => 0))), (q5, .inl (cA 3, 2, .inr (.inr (.inr (.inr (va_up (fun _ => none) 0 (some (ad 202))))))))]) rfl ?_
  refine N_dup dX9_init_49 rfl ?_
  refine N_iconst (v := nI 1) dX9_init_50 (by decide) ?_
  refine N_ldcS (x := 203) dX9_init_51 (fun _ _ h => ⟨_, h.2.2.2.2⟩) ?_
  refine N_astS (i := 5) (t := 3) (N := 2) (x := 1) (u := 1) (Nat.le_of_ble_eq_true rfl) dX9_init_53 rfl rfl (Nat.le_of_ble_eq_true rfl) (Nat.le_of_ble_eq_true rfl) ?_
  refine N_ws (ws' := [(h0, .inr (9, [.ref q1, .ref q2, .ref q3, .int 0, .ref q4, .null, .int 0, .int 0, .int 0, .int 0, .null, .int 0, .null, .null, .null, .null, .int 0, .null, .int 0, .int 0, .int 0, .int 0, .null, .null, .null, .null])), (q1, .inl (cA 0, 210, .inl (fun _ => 0))), (q2, .inl (cA 0, 210, .inl (fun _ => 0))), (q3, .inl (cA 0, 210, .inl (fun _ => 0))), (q4, .inl (cA 0, 6, .inl (fun _ => 0))), (q5, .inl (cA 3, 2, .inr (.inr (.inr (.inr (va_up (va_up (fun _ => none) 0 (some (ad 202))) 1 (some (ad 203))))))))]) rfl ?_
  refine N_putF (i := 0) (j := 5) (ty := .array (.object "java/lang/String")) dX9_init_54 jcl_X9 nfX9_28 (by decide) rfl rfl (by decide +kernel) rfl rfl (Nat.le_of_ble_eq_true rfl) rfl ?_
  refine N_ws (ws' := [(h0, .inr (9, [.ref q1, .ref q2, .ref q3, .int 0, .ref q4, .ref q5, .int 0, .int 0, .int 0, .int 0, .null, .int 0, .null, .null, .null, .null, .int 0, .null, .int 0, .int 0, .int 0, .int 0, .null, .null, .null, .null])), (q1, .inl (cA 0, 210, .inl (fun _ => 0))), (q2, .inl (cA 0, 210, .inl (fun _ => 0))), (q3, .inl (cA 0, 210, .inl (fun _ => 0))), (q4, .inl (cA 0, 6, .inl (fun _ => 0))), (q5, .inl (cA 3, 2, .inr (.inr (.inr (.inr (va_up (va_up (fun _ => none) 0 (some (ad 202))) 1 (some (ad 203))))))))]) rfl ?_
  refine N_aload_n dX9_init_57 rfl ?_
  refine N_bipush (v := nI 60) dX9_init_58 (by decide) ?_
  refine N_newa (N := 60) dX9_init_60 na_i (by decide) (by decide) (Nat.le_of_ble_eq_true rfl) (Nat.le_of_ble_eq_true rfl) (Nat.le_of_ble_eq_true rfl) (fun q6 => ?_)
  refine N_putF (i := 0) (j := 10) (ty := .array .int) dX9_init_62 jcl_X9 nfX9_32 (by decide) rfl rfl (by decide +kernel) rfl rfl (Nat.le_of_ble_eq_true rfl) rfl ?_
  refine N_ws (ws' := [(h0, .inr (9, [.ref q1, .ref q2, .ref q3, .int 0, .ref q4, .ref q5, .int 0, .int 0, .int 0, .int 0, .ref q6, .int 0, .null, .null, .null, .null, .int 0, .null, .int 0, .int 0, .int 0, .int 0, .null, .null, .null, .null])), (q1, .inl (cA 0, 210, .inl (fun _ => 0))), (q2, .inl (cA 0, 210, .inl (fun _ => 0))), (q3, .inl (cA 0, 210, .inl (fun _ => 0))), (q4, .inl (cA 0, 6, .inl (fun _ => 0))), (q5, .inl (cA 3, 2, .inr (.inr (.inr (.inr (va_up (va_up (fun _ => none) 0 (some (ad 202))) 1 (some (ad 203)))))))), (q6, .inl (cA 0, 60, .inl (fun _ => 0)))]) rfl ?_
  refine N_aload_n dX9_init_65 rfl ?_
  refine N_iconst (v := nI 4) dX9_init_66 (by decide) ?_
  refine N_newa (N := 4) dX9_init_67 na_i (by decide) (by decide) (Nat.le_of_ble_eq_true rfl) (Nat.le_of_ble_eq_true rfl) (Nat.le_of_ble_eq_true rfl) (fun q7 => ?_)
  refine N_putF (i := 0) (j := 12) (ty := .array .int) dX9_init_69 jcl_X9 nfX9_35 (by decide) rfl rfl (by decide +kernel) rfl rfl (Nat.le_of_ble_eq_true rfl) rfl ?_
  refine N_ws (ws' := [(h0, .inr (9, [.ref q1, .ref q2, .ref q3, .int 0, .ref q4, .ref q5, .int 0, .int 0, .int 0, .int 0, .ref q6, .int 0, .ref q7, .null, .null, .null, .int 0, .null, .int 0, .int 0, .int 0, .int 0, .null, .null, .null, .null])), (q1, .inl (cA 0, 210, .inl (fun _ => 0))), (q2, .inl (cA 0, 210, .inl (fun _ => 0))), (q3, .inl (cA 0, 210, .inl (fun _ => 0))), (q4, .inl (cA 0, 6, .inl (fun _ => 0))), (q5, .inl (cA 3, 2, .inr (.inr (.inr (.inr (va_up (va_up (fun _ => none) 0 (some (ad 202))) 1 (some (ad 203)))))))), (q6, .inl (cA 0, 60, .inl (fun _ => 0))), (q7, .inl (cA 0, 4, .inl (fun _ => 0)))]) rfl ?_
  refine N_aload_n dX9_init_72 rfl ?_
  refine N_bipush (v := nI 60) dX9_init_73 (by decide) ?_
  refine N_newa (N := 60) dX9_init_75 na_i (by decide) (by decide) (Nat.le_of_ble_eq_true rfl) (Nat.le_of_ble_eq_true rfl) (Nat.le_of_ble_eq_true rfl) (fun q8 => ?_)
  refine N_putF (i := 0) (j := 13) (ty := .array .int) dX9_init_77 jcl_X9 nfX9_38 (by decide) rfl rfl (by decide +kernel) rfl rfl (Nat.le_of_ble_eq_true rfl) rfl ?_
  refine N_ws (ws' := [(h0, .inr (9, [.ref q1, .ref q2, .ref q3, .int 0, .ref q4, .ref q5, .int 0, .int 0, .int 0, .int 0, .ref q6, .int 0, .ref q7, .ref q8, .null, .null, .int 0, .null, .int 0, .int 0, .int 0, .int 0, .null, .null, .null, .null])), (q1, .inl (cA 0, 210, .inl (fun _ => 0))), (q2, .inl (cA 0, 210, .inl (fun _ => 0))), (q3, .inl (cA 0, 210, .inl (fun _ => 0))), (q4, .inl (cA 0, 6, .inl (fun _ => 0))), (q5, .inl (cA 3, 2, .inr (.inr (.inr (.inr (va_up (va_up (fun _ => none) 0 (some (ad 202))) 1 (some (ad 203)))))))), (q6, .inl (cA 0, 60, .inl (fun _ => 0))), (q7, .inl (cA 0, 4, .inl (fun _ => 0))), (q8, .inl (cA 0, 60, .inl (fun _ => 0)))]) rfl ?_
  refine N_aload_n dX9_init_80 rfl ?_
  refine N_bipush (v := nI 6) dX9_init_81 (by decide) ?_
  refine N_newa (N := 6) dX9_init_83 na_i (by decide) (by decide) (Nat.le_of_ble_eq_true rfl) (Nat.le_of_ble_eq_true rfl) (Nat.le_of_ble_eq_true rfl) (fun q9 => ?_)
  refine N_putF (i := 0) (j := 14) (ty := .array .int) dX9_init_85 jcl_X9 nfX9_41 (by decide) rfl rfl (by decide +kernel) rfl rfl (Nat.le_of_ble_eq_true rfl) rfl ?_
  refine N_ws (ws' := [(h0, .inr (9, [.ref q1, .ref q2, .ref q3, .int 0, .ref q4, .ref q5, .int 0, .int 0, .int 0, .int 0, .ref q6, .int 0, .ref q7, .ref q8, .ref q9, .null, .int 0, .null, .int 0, .int 0, .int 0, .int 0, .null, .null, .null, .null])), (q1, .inl (cA 0, 210, .inl (fun _ => 0))), (q2, .inl (cA 0, 210, .inl (fun _ => 0))), (q3, .inl (cA 0, 210, .inl (fun _ => 0))), (q4, .inl (cA 0, 6, .inl (fun _ => 0))), (q5, .inl (cA 3, 2, .inr (.inr (.inr (.inr (va_up (va_up (fun _ => none) 0 (some (ad 202))) 1 (some (ad 203)))))))), (q6, .inl (cA 0, 60, .inl (fun _ => 0))), (q7, .inl (cA 0, 4, .inl (fun _ => 0))), (q8, .inl (cA 0, 60, .inl (fun _ => 0))), (q9, .inl (cA 0, 6, .inl (fun _ => 0)))]) rfl ?_
  refine N_aload_n dX9_init_88 rfl ?_
  refine N_bipush (v := nI 24) dX9_init_89 (by decide) ?_
  refine N_newa (N := 24) dX9_init_91 na_i (by decide) (by decide) (Nat.le_of_ble_eq_true rfl) (Nat.le_of_ble_eq_true rfl) (Nat.le_of_ble_eq_true rfl) (fun q10 => ?_)
  refine N_putF (i := 0) (j := 15) (ty := .array .int) dX9_init_93 jcl_X9 nfX9_44 (by decide) rfl rfl (by decide +kernel) rfl rfl (Nat.le_of_ble_eq_true rfl) rfl ?_
  refine N_ws (ws' := [(h0, .inr (9, [.ref q1, .ref q2, .ref q3, .int 0, .ref q4, .ref q5, .int 0, .int 0, .int 0, .int 0, .ref q6, .int 0, .ref q7, .ref q8, .ref q9, .ref q10, .int 0, .null, .int 0, .int 0, .int 0, .int 0, .null, .null, .null, .null])), (q1, .inl (cA 0, 210, .inl (fun _ => 0))), (q2, .inl (cA 0, 210, .inl (fun _ => 0))), (q3, .inl (cA 0, 210, .inl (fun _ => 0))), (q4, .inl (cA 0, 6, .inl (fun _ => 0))), (q5, .inl (cA 3, 2, .inr (.inr (.inr (.inr (va_up (va_up (fun _ => none) 0 (some (ad 202))) 1 (some (ad 203)))))))), (q6, .inl (cA 0, 60, .inl (fun _ => 0))), (q7, .inl (cA 0, 4, .inl (fun _ => 0))), (q8, .inl (cA 0, 60, .inl (fun _ => 0))), (q9, .inl (cA 0, 6, .inl (fun _ => 0))), (q10, .inl (cA 0, 24, .inl (fun _ => 0)))]) rfl ?_
  refine N_aload_n dX9_init_96 rfl ?_
  refine N_bipush (v := nI 40) dX9_init_97 (by decide) ?_
  refine N_newa (N := 40) dX9_init_99 na_i (by decide) (by decide) (Nat.le_of_ble_eq_true rfl) (Nat.le_of_ble_eq_true rfl) (Nat.le_of_ble_eq_true rfl) (fun q11 => ?_)
  refine N_putF (i := 0) (j := 17) (ty := .array .int) dX9_init_101 jcl_X9 nfX9_47 (by decide) rfl rfl (by decide +kernel) rfl rfl (Nat.le_of_ble_eq_true rfl) rfl ?_
  refine N_ws (ws' := [(h0, .inr (9, [.ref q1, .ref q2, .ref q3, .int 0, .ref q4, .ref q5, .int 0, .int 0, .int 0, .int 0, .ref q6, .int 0, .ref q7, .ref q8, .ref q9, .ref q10, .int 0, .ref q11, .int 0, .int 0, .int 0, .int 0, .null, .null, .null, .null])), (q1, .inl (cA 0, 210, .inl (fun _ => 0))), (q2, .inl (cA 0, 210, .inl (fun _ => 0))), (q3, .inl (cA 0, 210, .inl (fun _ => 0))), (q4, .inl (cA 0, 6, .inl (fun _ => 0))), (q5, .inl (cA 3, 2, .inr (.inr (.inr (.inr (va_up (va_up (fun _ => none) 0 (some (ad 202))) 1 (some (ad 203)))))))), (q6, .inl (cA 0, 60, .inl (fun _ => 0))), (q7, .inl (cA 0, 4, .inl (fun _ => 0))), (q8, .inl (cA 0, 60, .inl (fun _ => 0))), (q9, .inl (cA 0, 6, .inl (fun _ => 0))), (q10, .inl (cA 0, 24, .inl (fun _ => 0))), (q11, .inl (cA 0, 40, .inl (fun _ => 0)))]) rfl ?_
  refine N_aload_n dX9_init_104 rfl ?_
  refine N_iconst (v := nI 4) dX9_init_105 (by decide) ?_
  refine N_newa (N := 4) dX9_init_106 na_i (by decide) (by decide) (Nat.le_of_ble_eq_true rfl) (Nat.le_of_ble_eq_true rfl) (Nat.le_of_ble_eq_true rfl) (fun q12 => ?_)
  refine N_putF (i := 0) (j := 22) (ty := .array .int) dX9_init_108 jcl_X9 nfX9_50 (by decide) rfl rfl (by decide +kernel) rfl rfl (Nat.le_of_ble_eq_true rfl) rfl ?_
  refine N_ws (ws' := [(h0, .inr (9, [.ref q1, .ref q2, .ref q3, .int 0, .ref q4, .ref q5, .int 0, .int 0, .int 0, .int 0, .ref q6, .int 0, .ref q7, .ref q8, .ref q9, .ref q10, .int 0, .ref q11, .int 0, .int 0, .int 0, .int 0, .ref q12, .null, .null, .null])), (q1, .inl (cA 0, 210, .inl (fun _ => 0))), (q2, .inl (cA 0, 210, .inl (fun _ => 0))), (q3, .inl (cA 0, 210, .inl (fun _ => 0))), (q4, .inl (cA 0, 6, .inl (fun _ => 0))), (q5, .inl (cA 3, 2, .inr (.inr (.inr (.inr (va_up (va_up (fun _ => none) 0 (some (ad 202))) 1 (some (ad 203)))))))), (q6, .inl (cA 0, 60, .inl (fun _ => 0))), (q7, .inl (cA 0, 4, .inl (fun _ => 0))), (q8, .inl (cA 0, 60, .inl (fun _ => 0))), (q9, .inl (cA 0, 6, .inl (fun _ => 0))), (q10, .inl (cA 0, 24, .inl (fun _ => 0))), (q11, .inl (cA 0, 40, .inl (fun _ => 0))), (q12, .inl (cA 0, 4, .inl (fun _ => 0)))]) rfl ?_
  refine N_aload_n dX9_init_111 rfl ?_
  refine N_iconst (v := nI 4) dX9_init_112 (by decide) ?_
  refine N_newa (N := 4) dX9_init_113 na_i (by decide) (by decide) (Nat.le_of_ble_eq_true rfl) (Nat.le_of_ble_eq_true rfl) (Nat.le_of_ble_eq_true rfl) (fun q13 => ?_)
  refine N_putF (i := 0) (j := 23) (ty := .array .int) dX9_init_115 jcl_X9 nfX9_53 (by decide) rfl rfl (by decide +kernel) rfl rfl (Nat.le_of_ble_eq_true rfl) rfl ?_
  refine N_ws (ws' := [(h0, .inr (9, [.ref q1, .ref q2, .ref q3, .int 0, .ref q4, .ref q5, .int 0, .int 0, .int 0, .int 0, .ref q6, .int 0, .ref q7, .ref q8, .ref q9, .ref q10, .int 0, .ref q11, .int 0, .int 0, .int 0, .int 0, .ref q12, .ref q13, .null, .null])), (q1, .inl (cA 0, 210, .inl (fun _ => 0))), (q2, .inl (cA 0, 210, .inl (fun _ => 0))), (q3, .inl (cA 0, 210, .inl (fun _ => 0))), (q4, .inl (cA 0, 6, .inl (fun _ => 0))), (q5, .inl (cA 3, 2, .inr (.inr (.inr (.inr (va_up (va_up (fun _ => none) 0 (some (ad 202))) 1 (some (ad 203)))))))), (q6, .inl (cA 0, 60, .inl (fun _ => 0))), (q7, .inl (cA 0, 4, .inl (fun _ => 0))), (q8, .inl (cA 0, 60, .inl (fun _ => 0))), (q9, .inl (cA 0, 6, .inl (fun _ => 0))), (q10, .inl (cA 0, 24, .inl (fun _ => 0))), (q11, .inl (cA 0, 40, .inl (fun _ => 0))), (q12, .inl (cA 0, 4, .inl (fun _ => 0))), (q13, .inl (cA 0, 4, .inl (fun _ => 0)))]) rfl ?_
  refine N_aload_n dX9_init_118 rfl ?_
  refine N_sipush (v := nI 160) dX9_init_119 (by decide) ?_
  refine N_newa (N := 160) dX9_init_122 na_i (by decide) (by decide) (Nat.le_of_ble_eq_true rfl) (Nat.le_of_ble_eq_true rfl) (Nat.le_of_ble_eq_true rfl) (fun q14 => ?_)
  refine N_putF (i := 0) (j := 24) (ty := .array .int) dX9_init_124 jcl_X9 nfX9_56 (by decide) rfl rfl (by decide +kernel) rfl rfl (Nat.le_of_ble_eq_true rfl) rfl ?_
  refine N_ws (ws' := [(h0, .inr (9, [.ref q1, .ref q2, .ref q3, .int 0, .ref q4, .ref q5, .int 0, .int 0, .int 0, .int 0, .ref q6, .int 0, .ref q7, .ref q8, .ref q9, .ref q10, .int 0, .ref q11, .int 0, .int 0, .int 0, .int 0, .ref q12, .ref q13, .ref q14, .null])), (q1, .inl (cA 0, 210, .inl (fun _ => 0))), (q2, .inl (cA 0, 210, .inl (fun _ => 0))), (q3, .inl (cA 0, 210, .inl (fun _ => 0))), (q4, .inl (cA 0, 6, .inl (fun _ => 0))), (q5, .inl (cA 3, 2, .inr (.inr (.inr (.inr (va_up (va_up (fun _ => none) 0 (some (ad 202))) 1 (some (ad 203)))))))), (q6, .inl (cA 0, 60, .inl (fun _ => 0))), (q7, .inl (cA 0, 4, .inl (fun _ => 0))), (q8, .inl (cA 0, 60, .inl (fun _ => 0))), (q9, .inl (cA 0, 6, .inl (fun _ => 0))), (q10, .inl (cA 0, 24, .inl (fun _ => 0))), (q11, .inl (cA 0, 40, .inl (fun _ => 0))), (q12, .inl (cA 0, 4, .inl (fun _ => 0))), (q13, .inl (cA 0, 4, .inl (fun _ => 0))), (q14, .inl (cA 0, 160, .inl (fun _ => 0)))]) rfl ?_
  refine N_aload_n dX9_init_127 rfl ?_
  refine N_bipush (v := nI 40) dX9_init_128 (by decide) ?_
  refine N_newa (N := 40) dX9_init_130 na_i (by decide) (by decide) (Nat.le_of_ble_eq_true rfl) (Nat.le_of_ble_eq_true rfl) (Nat.le_of_ble_eq_true rfl) (fun q15 => ?_)
  refine N_putF (i := 0) (j := 25) (ty := .array .int) dX9_init_132 jcl_X9 nfX9_59 (by decide) rfl rfl (by decide +kernel) rfl rfl (Nat.le_of_ble_eq_true rfl) rfl ?_
  refine N_ws (ws' := [(h0, .inr (9, [.ref q1, .ref q2, .ref q3, .int 0, .ref q4, .ref q5, .int 0, .int 0, .int 0, .int 0, .ref q6, .int 0, .ref q7, .ref q8, .ref q9, .ref q10, .int 0, .ref q11, .int 0, .int 0, .int 0, .int 0, .ref q12, .ref q13, .ref q14, .ref q15])), (q1, .inl (cA 0, 210, .inl (fun _ => 0))), (q2, .inl (cA 0, 210, .inl (fun _ => 0))), (q3, .inl (cA 0, 210, .inl (fun _ => 0))), (q4, .inl (cA 0, 6, .inl (fun _ => 0))), (q5, .inl (cA 3, 2, .inr (.inr (.inr (.inr (va_up (va_up (fun _ => none) 0 (some (ad 202))) 1 (some (ad 203)))))))), (q6, .inl (cA 0, 60, .inl (fun _ => 0))), (q7, .inl (cA 0, 4, .inl (fun _ => 0))), (q8, .inl (cA 0, 60, .inl (fun _ => 0))), (q9, .inl (cA 0, 6, .inl (fun _ => 0))), (q10, .inl (cA 0, 24, .inl (fun _ => 0))), (q11, .inl (cA 0, 40, .inl (fun _ => 0))), (q12, .inl (cA 0, 4, .inl (fun _ => 0))), (q13, .inl (cA 0, 4, .inl (fun _ => 0))), (q14, .inl (cA 0, 160, .inl (fun _ => 0))), (q15, .inl (cA 0, 40, .inl (fun _ => 0)))]) rfl ?_
  refine N_aload_n dX9_init_135 rfl ?_
  refine N_get (i := 0) (j := 0) (v := .ref q1) dX9_init_136 jcl_X9 nfX9_9 (by decide) rfl rfl ?_
  refine N_iconst (v := nI 5) dX9_init_139 (by decide) ?_
  refine N_iconst (v := nI 1) dX9_init_140 (by decide) ?_
  refine N_iast (i := 1) (N := 210) (u := 5) dX9_init_141 rfl (Nat.le_of_ble_eq_true rfl) (Nat.le_of_ble_eq_true rfl) ?_
  refine N_ws (ws' := [(h0, .inr (9, [.ref q1, .ref q2, .ref q3, .int 0, .ref q4, .ref q5, .int 0, .int 0, .int 0, .int 0, .ref q6, .int 0, .ref q7, .ref q8, .ref q9, .ref q10, .int 0, .ref q11, .int 0, .int 0, .int 0, .int 0, .ref q12, .ref q13, .ref q14, .ref q15])), (q1, .inl (cA 0, 210, .inl (upd (fun _ => 0) 5 (nI 1)))), (q2, .inl (cA 0, 210, .inl (fun _ => 0))), (q3, .inl (cA 0, 210, .inl (fun _ => 0))), (q4, .inl (cA 0, 6, .inl (fun _ => 0))), (q5, .inl (cA 3, 2, .inr (.inr (.inr (.inr (va_up (va_up (fun _ => none) 0 (some (ad 202))) 1 (some (ad 203)))))))), (q6, .inl (cA 0, 60, .inl (fun _ => 0))), (q7, .inl (cA 0, 4, .inl (fun _ => 0))), (q8, .inl (cA 0, 60, .inl (fun _ => 0))), (q9, .inl (cA 0, 6, .inl (fun _ => 0))), (q10, .inl (cA 0, 24, .inl (fun _ => 0))), (q11, .inl (cA 0, 40, .inl (fun _ => 0))), (q12, .inl (cA 0, 4, .inl (fun _ => 0))), (q13, .inl (cA 0, 4, .inl (fun _ => 0))), (q14, .inl (cA 0, 160, .inl (fun _ => 0))), (q15, .inl (cA 0, 40, .inl (fun _ => 0)))]) rfl ?_
  refine N_fn (i := 5) (g := fun k => ((([some 202, some 203] : List (Option Nat))[k]?).getD none).map (aM (ad 202) (ad 203) [h0, q1, q2, q3, q4, q5, q6, q7, q8, q9, q10, q11, q12, q13, q14, q15])) rfl ?_ ?_
  · funext k
    rcases k with _ | _ | k <;> first | rfl | simp [va_up]
  refine N_ws (ws' := (h0, .inr (9, [.ref q1, .ref q2, .ref q3, .int 0, .ref q4, .ref q5, .int 0, .int 0, .int 0, .int 0, .ref q6, .int 0, .ref q7, .ref q8, .ref q9, .ref q10, .int 0, .ref q11, .int 0, .int 0, .int 0, .int 0, .ref q12, .ref q13, .ref q14, .ref q15])) :: jW (aM (ad 202) (ad 203) [h0, q1, q2, q3, q4, q5, q6, q7, q8, q9, q10, q11, q12, q13, q14, q15]) cA μM [87, 88, 89, 90, 91, 92, 93, 94, 95, 96, 97, 98, 99, 100, 101]) rfl ?_
  exact N_ret dX9_init_142 (Nat.le_of_ble_eq_true rfl) (Nat.le_of_ble_eq_true rfl) ⟨(aM (ad 202) (ad 203) [h0, q1, q2, q3, q4, q5, q6, q7, q8, q9, q10, q11, q12, q13, q14, q15]), rfl, rfl, rfl, mW_all cA _ _ h0 q1 q2 q3 q4 q5 q6 q7 q8 q9 q10 q11 q12 q13 q14 q15⟩
end NCT

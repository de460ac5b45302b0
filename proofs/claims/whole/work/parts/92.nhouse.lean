/-! THE HOUSE: its constructor; worlds in another order -/
def hPl : List Nat := [1, 2, 3, 4, 5, 6, 7, 8, 9, 10, 11, 12, 13, 14, 15, 16, 17, 18, 19, 20]
def μH : JMu := fun p => if p = 1 then (fun k => if k = 2 then 1 else 0) else if p = 17 then (fun k => if k = 0 then 1 else 0) else fun _ => 0
theorem va_P_perm {D : va_G} {cl : List vw_C} {ws ws' : va_W} {H : Heap} (h : ws.Perm ws') (hP : va_P D cl ws H) : va_P D cl ws' H := fun k q hk => by
  obtain ⟨j, hj⟩ := List.getElem?_of_mem (h.mem_iff.mpr (List.mem_of_getElem? hk))
  exact hP j q hj
theorem va_D_pw {A : Nat → Prop} {ws : va_W} : va_D A ws ↔ ws.Pairwise (fun p q => p.1 ≠ q.1) ∧ ∀ q ∈ ws, A q.1 := by
  constructor
  · intro h
    refine ⟨List.pairwise_iff_getElem.mpr (fun i j hi hj hij e => ?_), fun q hq => ?_⟩
    · have := h.1 i j ws[i] ws[j] (List.getElem?_eq_getElem hi) (List.getElem?_eq_getElem hj) e
      omega
    · obtain ⟨k, hk⟩ := List.getElem?_of_mem hq
      exact h.2 k q hk
  · rintro ⟨h1, h2⟩
    refine ⟨fun i j p q hi hj e => ?_, fun k q hk => h2 q (List.mem_of_getElem? hk)⟩
    obtain ⟨li, ei⟩ := List.getElem?_eq_some_iff.mp hi
    obtain ⟨lj, ej⟩ := List.getElem?_eq_some_iff.mp hj
    rcases Nat.lt_trichotomy i j with h | h | h
    · have := List.pairwise_iff_getElem.mp h1 i j li lj h
      rw [ei, ej] at this
      exact absurd e this
    · exact h
    · have := List.pairwise_iff_getElem.mp h1 j i lj li h
      rw [ei, ej] at this
      exact absurd e.symm this
theorem va_D_perm {A : Nat → Prop} {ws ws' : va_W} (h : ws.Perm ws') (hD : va_D A ws) : va_D A ws' := by
  obtain ⟨h1, h2⟩ := va_D_pw.mp hD
  exact va_D_pw.mpr ⟨(h.pairwise_iff (fun e e2 => e e2.symm)).mp h1, fun q hq => h2 q (h.mem_iff.mpr hq)⟩
section NPM
variable {ad : Nat → Nat} {cA : Nat → ClassId} {M : JM} {d KC KS : Nat} {Z : va_W → Prop} {pc : Nat} {L : List (Option Value)} {st : List Value} {ws : va_W} {k n : Nat}
theorem N_perm {ws' : va_W} (h : ws.Perm ws') (kk : NF ad cA M d KC KS Z pc L st ws' k n) : NF ad cA M d KC KS Z pc L st ws k n :=
  fun p l e s m args below meth c A D cx H locs ls hP hD hS hl => kk p l e s m args below meth c A D cx H locs ls (va_P_perm h hP) (va_D_perm h hD) hS hl
theorem N_sub {ws' : va_W} (is : List Nat) (hn : va_nd is = true) (h : is.map (fun i => ws[i]?) = ws'.map some) (kk : NF ad cA M d KC KS Z pc L st ws' k n) : NF ad cA M d KC KS Z pc L st ws k n :=
  fun p l e s m args below meth c A D cx H locs ls hP hD hS hl => kk p l e s m args below meth c A D cx H locs ls (hP.sub is (by have q := congrArg (List.filterMap id) h; simpa [List.filterMap_map] using q)) (hD.sub is hn h) hS hl
theorem N_fn {i a N : Nat} {c : ClassId} {f g : Nat → Option Nat} (hi : ws[i]? = some (a, .inl (c, N, .inr (.inr (.inr (.inr f)))))) (h : f = g) (kk : NF ad cA M d KC KS Z pc L st (ws.set i (a, .inl (c, N, .inr (.inr (.inr (.inr g)))))) k n) : NF ad cA M d KC KS Z pc L st ws k n := by
  subst h
  have e : ws.set i (a, .inl (c, N, .inr (.inr (.inr (.inr f))))) = ws := by
    apply List.ext_getElem?
    intro j
    by_cases hj : j = i
    · subst hj
      rw [List.getElem?_set_self (List.getElem?_eq_some_iff.mp hi).1, hi]
    · rw [List.getElem?_set_ne (Ne.symm hj)]
  rw [e] at kk
  exact kk
end NPM
theorem nlX0_3 : jWd (.methodLink RX0 3 Lib.objectInit) := jWd_t1 (i := 31) rfl rfl
theorem nfX0_9 : jWd (.fieldLink RX0 9 (TX0 2).1 (TX0 2).2.1 (TX0 2).2.2.1) := jWd_t1 (i := 111) rfl rfl
theorem ncX0_15 : jWd (.classLink RX0 15 RX6) := jWd_t1 (i := 32) rfl rfl
theorem nfX0_17 : jWd (.fieldLink RX0 17 (TX0 4).1 (TX0 4).2.1 (TX0 4).2.2.1) := jWd_t1 (i := 115) rfl rfl
theorem ncX0_21 : jWd (.classLink RX0 21 RX3) := jWd_t1 (i := 34) rfl rfl
theorem nlX0_23 : jWd (.methodLink RX0 23 m3_init.1) := jWd_t1 (i := 36) rfl rfl
theorem nfX0_26 : jWd (.fieldLink RX0 26 (TX0 5).1 (TX0 5).2.1 (TX0 5).2.2.1) := jWd_t1 (i := 116) rfl rfl
theorem nfX0_30 : jWd (.fieldLink RX0 30 (TX0 6).1 (TX0 6).2.1 (TX0 6).2.2.1) := jWd_t1 (i := 118) rfl rfl
theorem ncX0_33 : jWd (.classLink RX0 33 RX1) := jWd_t1 (i := 55) rfl rfl
theorem nlX0_35 : jWd (.methodLink RX0 35 m1_init.1) := jWd_t1 (i := 57) rfl rfl
theorem nfX0_36 : jWd (.fieldLink RX0 36 (TX0 7).1 (TX0 7).2.1 (TX0 7).2.2.1) := jWd_t1 (i := 120) rfl rfl
theorem nfX0_40 : jWd (.fieldLink RX0 40 (TX0 8).1 (TX0 8).2.1 (TX0 8).2.2.1) := jWd_t1 (i := 121) rfl rfl
theorem nlX0_43 : jWd (.methodLinkNest RX0 43 m6_init.1 "MoonRooms") := jWd_t1 (i := 75) rfl rfl
section NCT
variable {ad : Nat → Nat} {cA : Nat → ClassId}
theorem nc_0 : NC ad cA m0_init 3 19 320 0 [.int 0, .int 0, .int 0, .int 0, .null, .null, .null, .null, .null] [] (fun h0 w => ∃ ad' : Nat → Nat, ad' 1 = h0 ∧ w = jW ad' cA μH hPl) := by
  refine NC_of (L0 := fun h0 => [some (.ref h0), none]) sm0_init rfl rfl (fun x hx => absurd hx List.not_mem_nil) (fun _ => Nat.le_of_ble_eq_true rfl) (fun _ => rfl) (fun h0 => ?_)
  refine N_aload_n dX0_init_0 rfl ?_
  refine N_obj dX0_init_1 nlX0_3 no_i no_c (Nat.le_of_ble_eq_true rfl) (Nat.le_of_ble_eq_true rfl) ?_
  refine N_aload_n dX0_init_4 rfl ?_
  refine N_iconst (v := nI 1) dX0_init_5 (by decide) ?_
  refine N_put (i := 0) (j := 2) (ty := .int) dX0_init_6 jcl_X0 nfX0_9 (by decide) rfl (by decide +kernel) rfl rfl (Nat.le_of_ble_eq_true rfl) rfl ?_
  refine N_ws (ws' := [(h0, .inr (0, [.int 0, .int 0, .int (nI 1), .int 0, .null, .null, .null, .null, .null]))]) rfl ?_
  refine N_aload_n dX0_init_9 rfl ?_
  refine N_bipush (v := nI 6) dX0_init_10 (by decide) ?_
  refine N_newq (t := 1) (N := 6) dX0_init_12 ncX0_15 ao_T rfl (by decide) (by decide) (Nat.le_of_ble_eq_true rfl) (Nat.le_of_ble_eq_true rfl) (Nat.le_of_ble_eq_true rfl) (fun q1 => ?_)
  refine N_putF (i := 0) (j := 4) (ty := .array (.object "MoonRooms$Tenant")) dX0_init_15 jcl_X0 nfX0_17 (by decide) rfl rfl (by decide +kernel) rfl rfl (Nat.le_of_ble_eq_true rfl) rfl ?_
  refine N_ws (ws' := [(h0, .inr (0, [.int 0, .int 0, .int (nI 1), .int 0, .ref q1, .null, .null, .null, .null])), (q1, .inl (cA 1, 6, .inr (.inr (.inr (.inr (fun _ => none))))))]) rfl ?_
  refine N_aload_n dX0_init_18 rfl ?_
  refine N_new dX0_init_19 jcl_X3 ncX0_21 ni_X3 nn_X3 (fs := [.null, .int 0]) (fun j hj => by rcases (show j = 0 ∨ j = 1 by omega) with rfl | rfl <;> rfl) (Nat.le_of_ble_eq_true rfl) (Nat.le_of_ble_eq_true rfl) (fun q2 => ?_)
  refine N_dup dX0_init_22 rfl ?_
  refine N_bipush (v := nI 50) dX0_init_23 (by decide) ?_
  refine N_init (as := [.int (nI 50)]) dX0_init_25 nlX0_23 sm3_init rfl rfl im3_init (Nat.le_of_ble_eq_true rfl) rfl (Nat.le_of_ble_eq_true rfl) (nc_3 50 (Nat.le_of_ble_eq_true rfl)) (Nat.le_of_ble_eq_true rfl) (Nat.le_of_ble_eq_true rfl) (fun w hw => ?_)
  obtain ⟨r3, rfl⟩ := hw
  refine N_putF (i := 0) (j := 5) (ty := .object "MoonRooms$Row") dX0_init_28 jcl_X0 nfX0_26 (by decide) rfl rfl (by decide +kernel) rfl rfl (Nat.le_of_ble_eq_true rfl) rfl ?_
  refine N_ws (ws' := [(h0, .inr (0, [.int 0, .int 0, .int (nI 1), .int 0, .ref q1, .ref q2, .null, .null, .null])), (q1, .inl (cA 1, 6, .inr (.inr (.inr (.inr (fun _ => none)))))), (q2, .inr (3, [.ref r3, .int 0])), (r3, .inl (cA 0, 50, .inl (fun _ => 0)))]) rfl ?_
  refine N_aload_n dX0_init_31 rfl ?_
  refine N_new dX0_init_32 jcl_X3 ncX0_21 ni_X3 nn_X3 (fs := [.null, .int 0]) (fun j hj => by rcases (show j = 0 ∨ j = 1 by omega) with rfl | rfl <;> rfl) (Nat.le_of_ble_eq_true rfl) (Nat.le_of_ble_eq_true rfl) (fun q4 => ?_)
  refine N_dup dX0_init_35 rfl ?_
  refine N_bipush (v := nI 20) dX0_init_36 (by decide) ?_
  refine N_init (as := [.int (nI 20)]) dX0_init_38 nlX0_23 sm3_init rfl rfl im3_init (Nat.le_of_ble_eq_true rfl) rfl (Nat.le_of_ble_eq_true rfl) (nc_3 20 (Nat.le_of_ble_eq_true rfl)) (Nat.le_of_ble_eq_true rfl) (Nat.le_of_ble_eq_true rfl) (fun w hw => ?_)
  obtain ⟨r5, rfl⟩ := hw
  refine N_putF (i := 0) (j := 6) (ty := .object "MoonRooms$Row") dX0_init_41 jcl_X0 nfX0_30 (by decide) rfl rfl (by decide +kernel) rfl rfl (Nat.le_of_ble_eq_true rfl) rfl ?_
  refine N_ws (ws' := [(h0, .inr (0, [.int 0, .int 0, .int (nI 1), .int 0, .ref q1, .ref q2, .ref q4, .null, .null])), (q1, .inl (cA 1, 6, .inr (.inr (.inr (.inr (fun _ => none)))))), (q2, .inr (3, [.ref r3, .int 0])), (r3, .inl (cA 0, 50, .inl (fun _ => 0))), (q4, .inr (3, [.ref r5, .int 0])), (r5, .inl (cA 0, 20, .inl (fun _ => 0)))]) rfl ?_
  refine N_aload_n dX0_init_44 rfl ?_
  refine N_new dX0_init_45 jcl_X1 ncX0_33 ni_X1 nn_X1 (fs := [.int 0, .null, .null]) (fun j hj => by rcases (show j = 0 ∨ j = 1 ∨ j = 2 by omega) with rfl | rfl | rfl <;> rfl) (Nat.le_of_ble_eq_true rfl) (Nat.le_of_ble_eq_true rfl) (fun q6 => ?_)
  refine N_dup dX0_init_48 rfl ?_
  refine N_iconst (v := nI 0) dX0_init_49 (by decide) ?_
  refine N_init (as := [.int (nI 0)]) dX0_init_50 nlX0_35 sm1_init rfl rfl im1_init (Nat.le_of_ble_eq_true rfl) rfl (Nat.le_of_ble_eq_true rfl) (nc_1 (nI 0)) (Nat.le_of_ble_eq_true rfl) (Nat.le_of_ble_eq_true rfl) (fun w hw => ?_)
  obtain ⟨r7, r8, r9, rfl⟩ := hw
  refine N_putF (i := 0) (j := 7) (ty := .object "MoonRooms$Law") dX0_init_53 jcl_X0 nfX0_36 (by decide) rfl rfl (by decide +kernel) rfl rfl (Nat.le_of_ble_eq_true rfl) rfl ?_
  refine N_ws (ws' := [(h0, .inr (0, [.int 0, .int 0, .int (nI 1), .int 0, .ref q1, .ref q2, .ref q4, .ref q6, .null])), (q1, .inl (cA 1, 6, .inr (.inr (.inr (.inr (fun _ => none)))))), (q2, .inr (3, [.ref r3, .int 0])), (r3, .inl (cA 0, 50, .inl (fun _ => 0))), (q4, .inr (3, [.ref r5, .int 0])), (r5, .inl (cA 0, 20, .inl (fun _ => 0))), (q6, .inr (1, [.int (nI 0), .ref r7, .ref r9])), (r7, .inr (3, [.ref r8, .int 0])), (r8, .inl (cA 0, 50, .inl (fun _ => 0))), (r9, .inl (cA 0, 50, .inl (fun _ => 0)))]) rfl ?_
  refine N_aload_n dX0_init_56 rfl ?_
  refine N_new dX0_init_57 jcl_X1 ncX0_33 ni_X1 nn_X1 (fs := [.int 0, .null, .null]) (fun j hj => by rcases (show j = 0 ∨ j = 1 ∨ j = 2 by omega) with rfl | rfl | rfl <;> rfl) (Nat.le_of_ble_eq_true rfl) (Nat.le_of_ble_eq_true rfl) (fun q10 => ?_)
  refine N_dup dX0_init_60 rfl ?_
  refine N_iconst (v := nI 1) dX0_init_61 (by decide) ?_
  refine N_init (as := [.int (nI 1)]) dX0_init_62 nlX0_35 sm1_init rfl rfl im1_init (Nat.le_of_ble_eq_true rfl) rfl (Nat.le_of_ble_eq_true rfl) (nc_1 (nI 1)) (Nat.le_of_ble_eq_true rfl) (Nat.le_of_ble_eq_true rfl) (fun w hw => ?_)
  obtain ⟨r11, r12, r13, rfl⟩ := hw
  refine N_putF (i := 0) (j := 8) (ty := .object "MoonRooms$Law") dX0_init_65 jcl_X0 nfX0_40 (by decide) rfl rfl (by decide +kernel) rfl rfl (Nat.le_of_ble_eq_true rfl) rfl ?_
  refine N_ws (ws' := [(h0, .inr (0, [.int 0, .int 0, .int (nI 1), .int 0, .ref q1, .ref q2, .ref q4, .ref q6, .ref q10])), (q1, .inl (cA 1, 6, .inr (.inr (.inr (.inr (fun _ => none)))))), (q2, .inr (3, [.ref r3, .int 0])), (r3, .inl (cA 0, 50, .inl (fun _ => 0))), (q4, .inr (3, [.ref r5, .int 0])), (r5, .inl (cA 0, 20, .inl (fun _ => 0))), (q6, .inr (1, [.int (nI 0), .ref r7, .ref r9])), (r7, .inr (3, [.ref r8, .int 0])), (r8, .inl (cA 0, 50, .inl (fun _ => 0))), (r9, .inl (cA 0, 50, .inl (fun _ => 0))), (q10, .inr (1, [.int (nI 1), .ref r11, .ref r13])), (r11, .inr (3, [.ref r12, .int 0])), (r12, .inl (cA 0, 50, .inl (fun _ => 0))), (r13, .inl (cA 0, 50, .inl (fun _ => 0)))]) rfl ?_
  refine N_iconst (v := nI 0) dX0_init_68 (by decide) ?_
  refine N_istore_n dX0_init_69 (by decide) rfl ?_
  refine N_iload_n dX0_init_70 rfl ?_
  refine N_aload_n dX0_init_71 rfl ?_
  refine N_get (i := 0) (j := 4) (v := .ref q1) dX0_init_72 jcl_X0 nfX0_17 (by decide) rfl rfl ?_
  refine N_alenq (i := 1) (t := 1) (N := 6) (v := nI 6) dX0_init_75 rfl rfl rfl ?_
  refine N_geF dX0_init_76 (tgt := 98) (by decide) (by decide) ?_
  refine N_aload_n dX0_init_79 rfl ?_
  refine N_get (i := 0) (j := 4) (v := .ref q1) dX0_init_80 jcl_X0 nfX0_17 (by decide) rfl rfl ?_
  refine N_iload_n dX0_init_83 rfl ?_
  refine N_new dX0_init_84 jcl_X6 ncX0_15 ni_X6 nn_X6 (fs := [.int 0, .int 0, .int 0, .int 0, .int 0]) (fun j hj => by rcases (show j = 0 ∨ j = 1 ∨ j = 2 ∨ j = 3 ∨ j = 4 by omega) with rfl | rfl | rfl | rfl | rfl <;> rfl) (Nat.le_of_ble_eq_true rfl) (Nat.le_of_ble_eq_true rfl) (fun q14 => ?_)
  refine N_dup dX0_init_87 rfl ?_
  refine N_initN (as := []) dX0_init_88 nlX0_43 sm6_init rfl rfl im6_init (Nat.le_of_ble_eq_true rfl) rfl (Nat.le_of_ble_eq_true rfl) nc_6 (Nat.le_of_ble_eq_true rfl) (Nat.le_of_ble_eq_true rfl) (fun w hw => ?_)
  obtain rfl := hw
  refine N_astq (i := 1) (t := 1) (N := 6) (u := 0) (j := 14) (ci := 6) (r := (RX6, TX6, 5)) dX0_init_91 rfl rfl rfl rfl (Nat.le_of_ble_eq_true rfl) (Nat.le_of_ble_eq_true rfl) ?_
  refine N_ws (ws' := [(h0, .inr (0, [.int 0, .int 0, .int (nI 1), .int 0, .ref q1, .ref q2, .ref q4, .ref q6, .ref q10])), (q1, .inl (cA 1, 6, .inr (.inr (.inr (.inr (va_up (fun _ => none) 0 (some q14))))))), (q2, .inr (3, [.ref r3, .int 0])), (r3, .inl (cA 0, 50, .inl (fun _ => 0))), (q4, .inr (3, [.ref r5, .int 0])), (r5, .inl (cA 0, 20, .inl (fun _ => 0))), (q6, .inr (1, [.int (nI 0), .ref r7, .ref r9])), (r7, .inr (3, [.ref r8, .int 0])), (r8, .inl (cA 0, 50, .inl (fun _ => 0))), (r9, .inl (cA 0, 50, .inl (fun _ => 0))), (q10, .inr (1, [.int (nI 1), .ref r11, .ref r13])), (r11, .inr (3, [.ref r12, .int 0])), (r12, .inl (cA 0, 50, .inl (fun _ => 0))), (r13, .inl (cA 0, 50, .inl (fun _ => 0))), (q14, .inr (6, [.int 0, .int 0, .int 0, .int 0, .int 0]))]) rfl ?_
  refine N_iinc dX0_init_92 rfl (c0 := 1) (by decide) (by decide) rfl ?_
  refine N_L (L' := [some (.ref h0), some (.int (nI 1))]) (by show [_, some (Value.int (nI 0 + 1))] = _; rw [nI_1]) ?_
  refine N_goto dX0_init_95 (tgt := 70) (by decide) ?_
  refine N_iload_n dX0_init_70 rfl ?_
  refine N_aload_n dX0_init_71 rfl ?_
  refine N_get (i := 0) (j := 4) (v := .ref q1) dX0_init_72 jcl_X0 nfX0_17 (by decide) rfl rfl ?_
  refine N_alenq (i := 1) (t := 1) (N := 6) (v := nI 6) dX0_init_75 rfl rfl rfl ?_
  refine N_geF dX0_init_76 (tgt := 98) (by decide) (by decide) ?_
  refine N_aload_n dX0_init_79 rfl ?_
  refine N_get (i := 0) (j := 4) (v := .ref q1) dX0_init_80 jcl_X0 nfX0_17 (by decide) rfl rfl ?_
  refine N_iload_n dX0_init_83 rfl ?_
  refine N_new dX0_init_84 jcl_X6 ncX0_15 ni_X6 nn_X6 (fs := [.int 0, .int 0, .int 0, .int 0, .int 0]) (fun j hj => by rcases (show j = 0 ∨ j = 1 ∨ j = 2 ∨ j = 3 ∨ j = 4 by omega) with rfl | rfl | rfl | rfl | rfl <;> rfl) (Nat.le_of_ble_eq_true rfl) (Nat.le_of_ble_eq_true rfl) (fun q15 => ?_)
  refine N_dup dX0_init_87 rfl ?_
  refine N_initN (as := []) dX0_init_88 nlX0_43 sm6_init rfl rfl im6_init (Nat.le_of_ble_eq_true rfl) rfl (Nat.le_of_ble_eq_true rfl) nc_6 (Nat.le_of_ble_eq_true rfl) (Nat.le_of_ble_eq_true rfl) (fun w hw => ?_)
  obtain rfl := hw
  refine N_astq (i := 1) (t := 1) (N := 6) (u := 1) (j := 15) (ci := 6) (r := (RX6, TX6, 5)) dX0_init_91 rfl rfl rfl rfl (Nat.le_of_ble_eq_true rfl) (Nat.le_of_ble_eq_true rfl) ?_
  refine N_ws (ws' := [(h0, .inr (0, [.int 0, .int 0, .int (nI 1), .int 0, .ref q1, .ref q2, .ref q4, .ref q6, .ref q10])), (q1, .inl (cA 1, 6, .inr (.inr (.inr (.inr (va_up (va_up (fun _ => none) 0 (some q14)) 1 (some q15))))))), (q2, .inr (3, [.ref r3, .int 0])), (r3, .inl (cA 0, 50, .inl (fun _ => 0))), (q4, .inr (3, [.ref r5, .int 0])), (r5, .inl (cA 0, 20, .inl (fun _ => 0))), (q6, .inr (1, [.int (nI 0), .ref r7, .ref r9])), (r7, .inr (3, [.ref r8, .int 0])), (r8, .inl (cA 0, 50, .inl (fun _ => 0))), (r9, .inl (cA 0, 50, .inl (fun _ => 0))), (q10, .inr (1, [.int (nI 1), .ref r11, .ref r13])), (r11, .inr (3, [.ref r12, .int 0])), (r12, .inl (cA 0, 50, .inl (fun _ => 0))), (r13, .inl (cA 0, 50, .inl (fun _ => 0))), (q14, .inr (6, [.int 0, .int 0, .int 0, .int 0, .int 0])), (q15, .inr (6, [.int 0, .int 0, .int 0, .int 0, .int 0]))]) rfl ?_
  refine N_iinc dX0_init_92 rfl (c0 := 1) (by decide) (by decide) rfl ?_
  refine N_L (L' := [some (.ref h0), some (.int (nI 2))]) (by show [_, some (Value.int (nI 1 + 1))] = _; rw [nI_1]) ?_
  refine N_goto dX0_init_95 (tgt := 70) (by decide) ?_
  refine N_iload_n dX0_init_70 rfl ?_
  refine N_aload_n dX0_init_71 rfl ?_
  refine N_get (i := 0) (j := 4) (v := .ref q1) dX0_init_72 jcl_X0 nfX0_17 (by decide) rfl rfl ?_
  refine N_alenq (i := 1) (t := 1) (N := 6) (v := nI 6) dX0_init_75 rfl rfl rfl ?_
  refine N_geF dX0_init_76 (tgt := 98) (by decide) (by decide) ?_
  refine N_aload_n dX0_init_79 rfl ?_
  refine N_get (i := 0) (j := 4) (v := .ref q1) dX0_init_80 jcl_X0 nfX0_17 (by decide) rfl rfl ?_
  refine N_iload_n dX0_init_83 rfl ?_
  refine N_new dX0_init_84 jcl_X6 ncX0_15 ni_X6 nn_X6 (fs := [.int 0, .int 0, .int 0, .int 0, .int 0]) (fun j hj => by rcases (show j = 0 ∨ j = 1 ∨ j = 2 ∨ j = 3 ∨ j = 4 by omega) with rfl | rfl | rfl | rfl | rfl <;> rfl) (Nat.le_of_ble_eq_true rfl) (Nat.le_of_ble_eq_true rfl) (fun q16 => ?_)
  refine N_dup dX0_init_87 rfl ?_
  refine N_initN (as := []) dX0_init_88 nlX0_43 sm6_init rfl rfl im6_init (Nat.le_of_ble_eq_true rfl) rfl (Nat.le_of_ble_eq_true rfl) nc_6 (Nat.le_of_ble_eq_true rfl) (Nat.le_of_ble_eq_true rfl) (fun w hw => ?_)
  obtain rfl := hw
  refine N_astq (i := 1) (t := 1) (N := 6) (u := 2) (j := 16) (ci := 6) (r := (RX6, TX6, 5)) dX0_init_91 rfl rfl rfl rfl (Nat.le_of_ble_eq_true rfl) (Nat.le_of_ble_eq_true rfl) ?_
  refine N_ws (ws' := [(h0, .inr (0, [.int 0, .int 0, .int (nI 1), .int 0, .ref q1, .ref q2, .ref q4, .ref q6, .ref q10])), (q1, .inl (cA 1, 6, .inr (.inr (.inr (.inr (va_up (va_up (va_up (fun _ => none) 0 (some q14)) 1 (some q15)) 2 (some q16))))))), (q2, .inr (3, [.ref r3, .int 0])), (r3, .inl (cA 0, 50, .inl (fun _ => 0))), (q4, .inr (3, [.ref r5, .int 0])), (r5, .inl (cA 0, 20, .inl (fun _ => 0))), (q6, .inr (1, [.int (nI 0), .ref r7, .ref r9])), (r7, .inr (3, [.ref r8, .int 0])), (r8, .inl (cA 0, 50, .inl (fun _ => 0))), (r9, .inl (cA 0, 50, .inl (fun _ => 0))), (q10, .inr (1, [.int (nI 1), .ref r11, .ref r13])), (r11, .inr (3, [.ref r12, .int 0])), (r12, .inl (cA 0, 50, .inl (fun _ => 0))), (r13, .inl (cA 0, 50, .inl (fun _ => 0))), (q14, .inr (6, [.int 0, .int 0, .int 0, .int 0, .int 0])), (q15, .inr (6, [.int 0, .int 0, .int 0, .int 0, .int 0])), (q16, .inr (6, [.int 0, .int 0, .int 0, .int 0, .int 0]))]) rfl ?_
  refine N_iinc dX0_init_92 rfl (c0 := 1) (by decide) (by decide) rfl ?_
  refine N_L (L' := [some (.ref h0), some (.int (nI 3))]) (by show [_, some (Value.int (nI 2 + 1))] = _; rw [nI_1]) ?_
  refine N_goto dX0_init_95 (tgt := 70) (by decide) ?_
  refine N_iload_n dX0_init_70 rfl ?_
  refine N_aload_n dX0_init_71 rfl ?_
  refine N_get (i := 0) (j := 4) (v := .ref q1) dX0_init_72 jcl_X0 nfX0_17 (by decide) rfl rfl ?_
  refine N_alenq (i := 1) (t := 1) (N := 6) (v := nI 6) dX0_init_75 rfl rfl rfl ?_
  refine N_geF dX0_init_76 (tgt := 98) (by decide) (by decide) ?_
  refine N_aload_n dX0_init_79 rfl ?_
  refine N_get (i := 0) (j := 4) (v := .ref q1) dX0_init_80 jcl_X0 nfX0_17 (by decide) rfl rfl ?_
  refine N_iload_n dX0_init_83 rfl ?_
  refine N_new dX0_init_84 jcl_X6 ncX0_15 ni_X6 nn_X6 (fs := [.int 0, .int 0, .int 0, .int 0, .int 0]) (fun j hj => by rcases (show j = 0 ∨ j = 1 ∨ j = 2 ∨ j = 3 ∨ j = 4 by omega) with rfl | rfl | rfl | rfl | rfl <;> rfl) (Nat.le_of_ble_eq_true rfl) (Nat.le_of_ble_eq_true rfl) (fun q17 => ?_)
  refine N_dup dX0_init_87 rfl ?_
  refine N_initN (as := []) dX0_init_88 nlX0_43 sm6_init rfl rfl im6_init (Nat.le_of_ble_eq_true rfl) rfl (Nat.le_of_ble_eq_true rfl) nc_6 (Nat.le_of_ble_eq_true rfl) (Nat.le_of_ble_eq_true rfl) (fun w hw => ?_)
  obtain rfl := hw
  refine N_astq (i := 1) (t := 1) (N := 6) (u := 3) (j := 17) (ci := 6) (r := (RX6, TX6, 5)) dX0_init_91 rfl rfl rfl rfl (Nat.le_of_ble_eq_true rfl) (Nat.le_of_ble_eq_true rfl) ?_
  refine N_ws (ws' := [(h0, .inr (0, [.int 0, .int 0, .int (nI 1), .int 0, .ref q1, .ref q2, .ref q4, .ref q6, .ref q10])), (q1, .inl (cA 1, 6, .inr (.inr (.inr (.inr (va_up (va_up (va_up (va_up (fun _ => none) 0 (some q14)) 1 (some q15)) 2 (some q16)) 3 (some q17))))))), (q2, .inr (3, [.ref r3, .int 0])), (r3, .inl (cA 0, 50, .inl (fun _ => 0))), (q4, .inr (3, [.ref r5, .int 0])), (r5, .inl (cA 0, 20, .inl (fun _ => 0))), (q6, .inr (1, [.int (nI 0), .ref r7, .ref r9])), (r7, .inr (3, [.ref r8, .int 0])), (r8, .inl (cA 0, 50, .inl (fun _ => 0))), (r9, .inl (cA 0, 50, .inl (fun _ => 0))), (q10, .inr (1, [.int (nI 1), .ref r11, .ref r13])), (r11, .inr (3, [.ref r12, .int 0])), (r12, .inl (cA 0, 50, .inl (fun _ => 0))), (r13, .inl (cA 0, 50, .inl (fun _ => 0))), (q14, .inr (6, [.int 0, .int 0, .int 0, .int 0, .int 0])), (q15, .inr (6, [.int 0, .int 0, .int 0, .int 0, .int 0])), (q16, .inr (6, [.int 0, .int 0, .int 0, .int 0, .int 0])), (q17, .inr (6, [.int 0, .int 0, .int 0, .int 0, .int 0]))]) rfl ?_
  refine N_iinc dX0_init_92 rfl (c0 := 1) (by decide) (by decide) rfl ?_
  refine N_L (L' := [some (.ref h0), some (.int (nI 4))]) (by show [_, some (Value.int (nI 3 + 1))] = _; rw [nI_1]) ?_
  refine N_goto dX0_init_95 (tgt := 70) (by decide) ?_
  refine N_iload_n dX0_init_70 rfl ?_
  refine N_aload_n dX0_init_71 rfl ?_
  refine N_get (i := 0) (j := 4) (v := .ref q1) dX0_init_72 jcl_X0 nfX0_17 (by decide) rfl rfl ?_
  refine N_alenq (i := 1) (t := 1) (N := 6) (v := nI 6) dX0_init_75 rfl rfl rfl ?_
  refine N_geF dX0_init_76 (tgt := 98) (by decide) (by decide) ?_
  refine N_aload_n dX0_init_79 rfl ?_
  refine N_get (i := 0) (j := 4) (v := .ref q1) dX0_init_80 jcl_X0 nfX0_17 (by decide) rfl rfl ?_
  refine N_iload_n dX0_init_83 rfl ?_
  refine N_new dX0_init_84 jcl_X6 ncX0_15 ni_X6 nn_X6 (fs := [.int 0, .int 0, .int 0, .int 0, .int 0]) (fun j hj => by rcases (show j = 0 ∨ j = 1 ∨ j = 2 ∨ j = 3 ∨ j = 4 by omega) with rfl | rfl | rfl | rfl | rfl <;> rfl) (Nat.le_of_ble_eq_true rfl) (Nat.le_of_ble_eq_true rfl) (fun q18 => ?_)
  refine N_dup dX0_init_87 rfl ?_
  refine N_initN (as := []) dX0_init_88 nlX0_43 sm6_init rfl rfl im6_init (Nat.le_of_ble_eq_true rfl) rfl (Nat.le_of_ble_eq_true rfl) nc_6 (Nat.le_of_ble_eq_true rfl) (Nat.le_of_ble_eq_true rfl) (fun w hw => ?_)
  obtain rfl := hw
  refine N_astq (i := 1) (t := 1) (N := 6) (u := 4) (j := 18) (ci := 6) (r := (RX6, TX6, 5)) dX0_init_91 rfl rfl rfl rfl (Nat.le_of_ble_eq_true rfl) (Nat.le_of_ble_eq_true rfl) ?_
  refine N_ws (ws' := [(h0, .inr (0, [.int 0, .int 0, .int (nI 1), .int 0, .ref q1, .ref q2, .ref q4, .ref q6, .ref q10])), (q1, .inl (cA 1, 6, .inr (.inr (.inr (.inr (va_up (va_up (va_up (va_up (va_up (fun _ => none) 0 (some q14)) 1 (some q15)) 2 (some q16)) 3 (some q17)) 4 (some q18))))))), (q2, .inr (3, [.ref r3, .int 0])), (r3, .inl (cA 0, 50, .inl (fun _ => 0))), (q4, .inr (3, [.ref r5, .int 0])), (r5, .inl (cA 0, 20, .inl (fun _ => 0))), (q6, .inr (1, [.int (nI 0), .ref r7, .ref r9])), (r7, .inr (3, [.ref r8, .int 0])), (r8, .inl (cA 0, 50, .inl (fun _ => 0))), (r9, .inl (cA 0, 50, .inl (fun _ => 0))), (q10, .inr (1, [.int (nI 1), .ref r11, .ref r13])), (r11, .inr (3, [.ref r12, .int 0])), (r12, .inl (cA 0, 50, .inl (fun _ => 0))), (r13, .inl (cA 0, 50, .inl (fun _ => 0))), (q14, .inr (6, [.int 0, .int 0, .int 0, .int 0, .int 0])), (q15, .inr (6, [.int 0, .int 0, .int 0, .int 0, .int 0])), (q16, .inr (6, [.int 0, .int 0, .int 0, .int 0, .int 0])), (q17, .inr (6, [.int 0, .int 0, .int 0, .int 0, .int 0])), (q18, .inr (6, [.int 0, .int 0, .int 0, .int 0, .int 0]))]) rfl ?_
  refine N_iinc dX0_init_92 rfl (c0 := 1) (by decide) (by decide) rfl ?_
  refine N_L (L' := [some (.ref h0), some (.int (nI 5))]) (by show [_, some (Value.int (nI 4 + 1))] = _; rw [nI_1]) ?_
  refine N_goto dX0_init_95 (tgt := 70) (by decide) ?_
  refine N_iload_n dX0_init_70 rfl ?_
  refine N_aload_n dX0_init_71 rfl ?_
  refine N_get (i := 0) (j := 4) (v := .ref q1) dX0_init_72 jcl_X0 nfX0_17 (by decide) rfl rfl ?_
  refine N_alenq (i := 1) (t := 1) (N := 6) (v := nI 6) dX0_init_75 rfl rfl rfl ?_
  refine N_geF dX0_init_76 (tgt := 98) (by decide) (by decide) ?_
  refine N_aload_n dX0_init_79 rfl ?_
  refine N_get (i := 0) (j := 4) (v := .ref q1) dX0_init_80 jcl_X0 nfX0_17 (by decide) rfl rfl ?_
  refine N_iload_n dX0_init_83 rfl ?_
  refine N_new dX0_init_84 jcl_X6 ncX0_15 ni_X6 nn_X6 (fs := [.int 0, .int 0, .int 0, .int 0, .int 0]) (fun j hj => by rcases (show j = 0 ∨ j = 1 ∨ j = 2 ∨ j = 3 ∨ j = 4 by omega) with rfl | rfl | rfl | rfl | rfl <;> rfl) (Nat.le_of_ble_eq_true rfl) (Nat.le_of_ble_eq_true rfl) (fun q19 => ?_)
  refine N_dup dX0_init_87 rfl ?_
  refine N_initN (as := []) dX0_init_88 nlX0_43 sm6_init rfl rfl im6_init (Nat.le_of_ble_eq_true rfl) rfl (Nat.le_of_ble_eq_true rfl) nc_6 (Nat.le_of_ble_eq_true rfl) (Nat.le_of_ble_eq_true rfl) (fun w hw => ?_)
  obtain rfl := hw
  refine N_astq (i := 1) (t := 1) (N := 6) (u := 5) (j := 19) (ci := 6) (r := (RX6, TX6, 5)) dX0_init_91 rfl rfl rfl rfl (Nat.le_of_ble_eq_true rfl) (Nat.le_of_ble_eq_true rfl) ?_
  refine N_ws (ws' := [(h0, .inr (0, [.int 0, .int 0, .int (nI 1), .int 0, .ref q1, .ref q2, .ref q4, .ref q6, .ref q10])), (q1, .inl (cA 1, 6, .inr (.inr (.inr (.inr (va_up (va_up (va_up (va_up (va_up (va_up (fun _ => none) 0 (some q14)) 1 (some q15)) 2 (some q16)) 3 (some q17)) 4 (some q18)) 5 (some q19))))))), (q2, .inr (3, [.ref r3, .int 0])), (r3, .inl (cA 0, 50, .inl (fun _ => 0))), (q4, .inr (3, [.ref r5, .int 0])), (r5, .inl (cA 0, 20, .inl (fun _ => 0))), (q6, .inr (1, [.int (nI 0), .ref r7, .ref r9])), (r7, .inr (3, [.ref r8, .int 0])), (r8, .inl (cA 0, 50, .inl (fun _ => 0))), (r9, .inl (cA 0, 50, .inl (fun _ => 0))), (q10, .inr (1, [.int (nI 1), .ref r11, .ref r13])), (r11, .inr (3, [.ref r12, .int 0])), (r12, .inl (cA 0, 50, .inl (fun _ => 0))), (r13, .inl (cA 0, 50, .inl (fun _ => 0))), (q14, .inr (6, [.int 0, .int 0, .int 0, .int 0, .int 0])), (q15, .inr (6, [.int 0, .int 0, .int 0, .int 0, .int 0])), (q16, .inr (6, [.int 0, .int 0, .int 0, .int 0, .int 0])), (q17, .inr (6, [.int 0, .int 0, .int 0, .int 0, .int 0])), (q18, .inr (6, [.int 0, .int 0, .int 0, .int 0, .int 0])), (q19, .inr (6, [.int 0, .int 0, .int 0, .int 0, .int 0]))]) rfl ?_
  refine N_iinc dX0_init_92 rfl (c0 := 1) (by decide) (by decide) rfl ?_
  refine N_L (L' := [some (.ref h0), some (.int (nI 6))]) (by show [_, some (Value.int (nI 5 + 1))] = _; rw [nI_1]) ?_
  refine N_goto dX0_init_95 (tgt := 70) (by decide) ?_
  refine N_iload_n dX0_init_70 rfl ?_
  refine N_aload_n dX0_init_71 rfl ?_
  refine N_get (i := 0) (j := 4) (v := .ref q1) dX0_init_72 jcl_X0 nfX0_17 (by decide) rfl rfl ?_
  refine N_alenq (i := 1) (t := 1) (N := 6) (v := nI 6) dX0_init_75 rfl rfl rfl ?_
  refine N_geT dX0_init_76 (tgt := 98) (by decide) (by decide) ?_
  refine N_fn (i := 1) (g := fun k => ((([some 3, some 4, some 5, some 6, some 7, some 8] : List (Option Nat))[k]?).getD none).map (fun p => ([0, h0, q1, q14, q15, q16, q17, q18, q19, q2, r3, q4, r5, q6, r7, r8, r9, q10, r11, r12, r13] : List Nat).getD p 0)) rfl ?_ ?_
  · funext k
    rcases k with _ | _ | _ | _ | _ | _ | k <;> first | rfl | simp [va_up]
  refine N_sub (ws' := jW (fun p => ([0, h0, q1, q14, q15, q16, q17, q18, q19, q2, r3, q4, r5, q6, r7, r8, r9, q10, r11, r12, r13] : List Nat).getD p 0) cA μH hPl) [0, 1, 14, 15, 16, 17, 18, 19, 2, 3, 4, 5, 6, 7, 8, 9, 10, 11, 12, 13] (by decide) rfl ?_
  exact N_ret dX0_init_98 (Nat.le_of_ble_eq_true rfl) (Nat.le_of_ble_eq_true rfl) ⟨_, rfl, rfl⟩
end NCT

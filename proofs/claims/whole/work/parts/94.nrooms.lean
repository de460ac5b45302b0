/-! MOONROOMS: its constructor, the second half (wip/whole/gen/gen94.py) -/
theorem nfX8_45 : jWd (.fieldLink RX8 45 (TX8 6).1 (TX8 6).2.1 (TX8 6).2.2.1) := jWd_t1 (i := 222) rfl rfl
theorem nfX8_49 : jWd (.fieldLink RX8 49 (TX8 7).1 (TX8 7).2.1 (TX8 7).2.2.1) := jWd_t1 (i := 223) rfl rfl
theorem ncX8_43 : jWd (.classLink RX8 43 RX4) := jWd_t1 (i := 198) rfl rfl
theorem nlX8_53 : jWd (.methodLinkNest RX8 53 m4_init.1 "MoonRooms") := jWd_t1 (i := 201) rfl rfl
def shB (cA : Nat → ClassId) (s r i : Nat) : va_W := [(s, .inr (4, [.ref r, .int 0])), (r, .inr (3, [.ref i, .int 0])), (i, .inl (cA 0, 40, .inl (fun _ => 0)))]
theorem perm_fin {α : Type} (x S E : α) (R b0 b1 b2 b3 : List α) : (x :: S :: E :: ((((R ++ b0) ++ b1) ++ b2) ++ b3)).Perm (x :: (R ++ (S :: (b0 ++ (b1 ++ (b2 ++ (b3 ++ [E]))))))) := by
  refine List.Perm.cons _ ?_
  have h1 : (E :: ((((R ++ b0) ++ b1) ++ b2) ++ b3)).Perm (R ++ (b0 ++ (b1 ++ (b2 ++ (b3 ++ [E]))))) := by
    have := List.perm_append_comm (l₁ := [E]) (l₂ := (((R ++ b0) ++ b1) ++ b2) ++ b3)
    simpa only [List.append_assoc, List.singleton_append] using this
  exact (h1.cons S).trans List.perm_middle.symm
section NCT
variable {ad : Nat → Nat} {cA : Nat → ClassId}
theorem nc_8b {Z : va_W → Prop} {R : va_W} {x0 a1 a2 a3 a4 a5 a6 : Nat} (hZ : ∀ S E s0 r0 i0 s1 r1 i1 s2 r2 i2 s3 r3 i3 : Nat, Z ((x0, .inr (8, [.ref a1, .ref a2, .ref a3, .ref a4, .ref a5, .ref a6, .ref S, .ref E, .int 0])) :: (R ++ ((S, .inl (cA 2, 4, .inr (.inr (.inr (.inr (va_up (va_up (va_up (va_up (fun _ => none) 0 (some s0)) 1 (some s1)) 2 (some s2)) 3 (some s3))))))) :: (shB cA s0 r0 i0 ++ (shB cA s1 r1 i1 ++ (shB cA s2 r2 i2 ++ (shB cA s3 r3 i3 ++ [(E, .inl (cA 0, 6, .inl (fun _ => 0)))])))))))) :
    NF ad cA m8_init 4 85 1336 Z 70 [some (.ref x0), none] [] ((x0, .inr (8, [.ref a1, .ref a2, .ref a3, .ref a4, .ref a5, .ref a6, .null, .null, .int 0])) :: R) 71 1150 := by
  refine N_aload_n dX8_init_70 rfl ?_
  refine N_iconst (v := nI 4) dX8_init_71 (by decide) ?_
  refine N_newq (t := 2) (N := 4) dX8_init_72 ncX8_43 ao_S rfl (by decide) (by decide) (Nat.le_of_ble_eq_true rfl) (Nat.le_of_ble_eq_true rfl) (Nat.le_of_ble_eq_true rfl) (fun S => ?_)
  refine N_perm (ws' := (x0, .inr (8, [.ref a1, .ref a2, .ref a3, .ref a4, .ref a5, .ref a6, .null, .null, .int 0])) :: (S, .inl (cA 2, 4, .inr (.inr (.inr (.inr (fun _ => none)))))) :: R) ((List.perm_append_comm (l₁ := R) (l₂ := [(S, .inl (cA 2, 4, .inr (.inr (.inr (.inr (fun _ => none))))))])).cons _) ?_
  refine N_putF (i := 0) (j := 6) (ty := .array (.object "MoonRooms$Sheet")) dX8_init_75 jcl_X8 nfX8_45 (by decide) rfl rfl (by decide +kernel) rfl rfl (Nat.le_of_ble_eq_true rfl) rfl ?_
  refine N_ws (ws' := (x0, .inr (8, [.ref a1, .ref a2, .ref a3, .ref a4, .ref a5, .ref a6, .ref S, .null, .int 0])) :: (S, .inl (cA 2, 4, .inr (.inr (.inr (.inr (fun _ => none)))))) :: R) rfl ?_
  refine N_aload_n dX8_init_78 rfl ?_
  refine N_bipush (v := nI 6) dX8_init_79 (by decide) ?_
  refine N_newa (N := 6) dX8_init_81 na_i (by decide) (by decide) (Nat.le_of_ble_eq_true rfl) (Nat.le_of_ble_eq_true rfl) (Nat.le_of_ble_eq_true rfl) (fun E => ?_)
  refine N_perm (ws' := (x0, .inr (8, [.ref a1, .ref a2, .ref a3, .ref a4, .ref a5, .ref a6, .ref S, .null, .int 0])) :: (S, .inl (cA 2, 4, .inr (.inr (.inr (.inr (fun _ => none)))))) :: (E, .inl (cA 0, 6, .inl (fun _ => 0))) :: R) (((List.perm_append_comm (l₁ := R) (l₂ := [(E, .inl (cA 0, 6, .inl (fun _ => 0)))])).cons _).cons _) ?_
  refine N_putF (i := 0) (j := 7) (ty := .array .int) dX8_init_83 jcl_X8 nfX8_49 (by decide) rfl rfl (by decide +kernel) rfl rfl (Nat.le_of_ble_eq_true rfl) rfl ?_
  refine N_ws (ws' := (x0, .inr (8, [.ref a1, .ref a2, .ref a3, .ref a4, .ref a5, .ref a6, .ref S, .ref E, .int 0])) :: (S, .inl (cA 2, 4, .inr (.inr (.inr (.inr (fun _ => none)))))) :: (E, .inl (cA 0, 6, .inl (fun _ => 0))) :: R) rfl ?_
  refine N_iconst (v := nI 0) dX8_init_86 (by decide) ?_
  refine N_istore_n dX8_init_87 (by decide) rfl ?_
  refine N_iload_n dX8_init_88 rfl ?_
  refine N_aload_n dX8_init_89 rfl ?_
  refine N_get (i := 0) (j := 6) (v := .ref S) dX8_init_90 jcl_X8 nfX8_45 (by decide) rfl rfl ?_
  refine N_alenq (i := 1) (t := 2) (N := 4) (v := nI 4) dX8_init_93 rfl rfl rfl ?_
  refine N_geF dX8_init_94 (tgt := 116) (by decide) (by decide) ?_
  refine N_aload_n dX8_init_97 rfl ?_
  refine N_get (i := 0) (j := 6) (v := .ref S) dX8_init_98 jcl_X8 nfX8_45 (by decide) rfl rfl ?_
  refine N_iload_n dX8_init_101 rfl ?_
  refine N_new dX8_init_102 jcl_X4 ncX8_43 ni_X4 nn_X4 (fs := [.null, .int 0]) (fun j hj => by rcases (show j = 0 ∨ j = 1 by omega) with rfl | rfl <;> rfl) (Nat.le_of_ble_eq_true rfl) (Nat.le_of_ble_eq_true rfl) (fun s0 => ?_)
  refine N_dup dX8_init_105 rfl ?_
  refine N_initN (as := []) dX8_init_106 nlX8_53 sm4_init rfl rfl im4_init (Nat.le_of_ble_eq_true rfl) rfl (Nat.le_of_ble_eq_true rfl) nc_4 (Nat.le_of_ble_eq_true rfl) (Nat.le_of_ble_eq_true rfl) (fun w hw => ?_)
  obtain ⟨r0, i0, rfl⟩ := hw
  refine N_perm (ws' := (x0, .inr (8, [.ref a1, .ref a2, .ref a3, .ref a4, .ref a5, .ref a6, .ref S, .ref E, .int 0])) :: (S, .inl (cA 2, 4, .inr (.inr (.inr (.inr (fun _ => none)))))) :: (E, .inl (cA 0, 6, .inl (fun _ => 0))) :: (shB cA s0 r0 i0 ++ R)) ((((List.perm_append_comm (l₁ := R) (l₂ := shB cA s0 r0 i0)).cons _).cons _).cons _) ?_
  refine N_astq (i := 1) (t := 2) (N := 4) (u := 0) (j := 3) (ci := 4) (r := (RX4, TX4, 2)) dX8_init_109 rfl rfl rfl rfl (Nat.le_of_ble_eq_true rfl) (Nat.le_of_ble_eq_true rfl) ?_
  refine N_perm (ws' := (x0, .inr (8, [.ref a1, .ref a2, .ref a3, .ref a4, .ref a5, .ref a6, .ref S, .ref E, .int 0])) :: (S, .inl (cA 2, 4, .inr (.inr (.inr (.inr (va_up (fun _ => none) 0 (some s0))))))) :: (E, .inl (cA 0, 6, .inl (fun _ => 0))) :: (R ++ shB cA s0 r0 i0)) ((((List.perm_append_comm (l₁ := shB cA s0 r0 i0) (l₂ := R)).cons _).cons _).cons _) ?_
  refine N_iinc dX8_init_110 rfl (c0 := 1) (by decide) (by decide) rfl ?_
  refine N_L (L' := [some (.ref x0), some (.int (nI 1))]) (by show [_, some (Value.int (nI 0 + 1))] = _; rw [nI_1]) ?_
  refine N_goto dX8_init_113 (tgt := 88) (by decide) ?_
  refine N_iload_n dX8_init_88 rfl ?_
  refine N_aload_n dX8_init_89 rfl ?_
  refine N_get (i := 0) (j := 6) (v := .ref S) dX8_init_90 jcl_X8 nfX8_45 (by decide) rfl rfl ?_
  refine N_alenq (i := 1) (t := 2) (N := 4) (v := nI 4) dX8_init_93 rfl rfl rfl ?_
  refine N_geF dX8_init_94 (tgt := 116) (by decide) (by decide) ?_
  refine N_aload_n dX8_init_97 rfl ?_
  refine N_get (i := 0) (j := 6) (v := .ref S) dX8_init_98 jcl_X8 nfX8_45 (by decide) rfl rfl ?_
  refine N_iload_n dX8_init_101 rfl ?_
  refine N_new dX8_init_102 jcl_X4 ncX8_43 ni_X4 nn_X4 (fs := [.null, .int 0]) (fun j hj => by rcases (show j = 0 ∨ j = 1 by omega) with rfl | rfl <;> rfl) (Nat.le_of_ble_eq_true rfl) (Nat.le_of_ble_eq_true rfl) (fun s1 => ?_)
  refine N_dup dX8_init_105 rfl ?_
  refine N_initN (as := []) dX8_init_106 nlX8_53 sm4_init rfl rfl im4_init (Nat.le_of_ble_eq_true rfl) rfl (Nat.le_of_ble_eq_true rfl) nc_4 (Nat.le_of_ble_eq_true rfl) (Nat.le_of_ble_eq_true rfl) (fun w hw => ?_)
  obtain ⟨r1, i1, rfl⟩ := hw
  refine N_perm (ws' := (x0, .inr (8, [.ref a1, .ref a2, .ref a3, .ref a4, .ref a5, .ref a6, .ref S, .ref E, .int 0])) :: (S, .inl (cA 2, 4, .inr (.inr (.inr (.inr (va_up (fun _ => none) 0 (some s0))))))) :: (E, .inl (cA 0, 6, .inl (fun _ => 0))) :: (shB cA s1 r1 i1 ++ (R ++ shB cA s0 r0 i0))) ((((List.perm_append_comm (l₁ := (R ++ shB cA s0 r0 i0)) (l₂ := shB cA s1 r1 i1)).cons _).cons _).cons _) ?_
  refine N_astq (i := 1) (t := 2) (N := 4) (u := 1) (j := 3) (ci := 4) (r := (RX4, TX4, 2)) dX8_init_109 rfl rfl rfl rfl (Nat.le_of_ble_eq_true rfl) (Nat.le_of_ble_eq_true rfl) ?_
  refine N_perm (ws' := (x0, .inr (8, [.ref a1, .ref a2, .ref a3, .ref a4, .ref a5, .ref a6, .ref S, .ref E, .int 0])) :: (S, .inl (cA 2, 4, .inr (.inr (.inr (.inr (va_up (va_up (fun _ => none) 0 (some s0)) 1 (some s1))))))) :: (E, .inl (cA 0, 6, .inl (fun _ => 0))) :: ((R ++ shB cA s0 r0 i0) ++ shB cA s1 r1 i1)) ((((List.perm_append_comm (l₁ := shB cA s1 r1 i1) (l₂ := (R ++ shB cA s0 r0 i0))).cons _).cons _).cons _) ?_
  refine N_iinc dX8_init_110 rfl (c0 := 1) (by decide) (by decide) rfl ?_
  refine N_L (L' := [some (.ref x0), some (.int (nI 2))]) (by show [_, some (Value.int (nI 1 + 1))] = _; rw [nI_1]) ?_
  refine N_goto dX8_init_113 (tgt := 88) (by decide) ?_
  refine N_iload_n dX8_init_88 rfl ?_
  refine N_aload_n dX8_init_89 rfl ?_
  refine N_get (i := 0) (j := 6) (v := .ref S) dX8_init_90 jcl_X8 nfX8_45 (by decide) rfl rfl ?_
  refine N_alenq (i := 1) (t := 2) (N := 4) (v := nI 4) dX8_init_93 rfl rfl rfl ?_
  refine N_geF dX8_init_94 (tgt := 116) (by decide) (by decide) ?_
  refine N_aload_n dX8_init_97 rfl ?_
  refine N_get (i := 0) (j := 6) (v := .ref S) dX8_init_98 jcl_X8 nfX8_45 (by decide) rfl rfl ?_
  refine N_iload_n dX8_init_101 rfl ?_
  refine N_new dX8_init_102 jcl_X4 ncX8_43 ni_X4 nn_X4 (fs := [.null, .int 0]) (fun j hj => by rcases (show j = 0 ∨ j = 1 by omega) with rfl | rfl <;> rfl) (Nat.le_of_ble_eq_true rfl) (Nat.le_of_ble_eq_true rfl) (fun s2 => ?_)
  refine N_dup dX8_init_105 rfl ?_
  refine N_initN (as := []) dX8_init_106 nlX8_53 sm4_init rfl rfl im4_init (Nat.le_of_ble_eq_true rfl) rfl (Nat.le_of_ble_eq_true rfl) nc_4 (Nat.le_of_ble_eq_true rfl) (Nat.le_of_ble_eq_true rfl) (fun w hw => ?_)
  obtain ⟨r2, i2, rfl⟩ := hw
  refine N_perm (ws' := (x0, .inr (8, [.ref a1, .ref a2, .ref a3, .ref a4, .ref a5, .ref a6, .ref S, .ref E, .int 0])) :: (S, .inl (cA 2, 4, .inr (.inr (.inr (.inr (va_up (va_up (fun _ => none) 0 (some s0)) 1 (some s1))))))) :: (E, .inl (cA 0, 6, .inl (fun _ => 0))) :: (shB cA s2 r2 i2 ++ ((R ++ shB cA s0 r0 i0) ++ shB cA s1 r1 i1))) ((((List.perm_append_comm (l₁ := ((R ++ shB cA s0 r0 i0) ++ shB cA s1 r1 i1)) (l₂ := shB cA s2 r2 i2)).cons _).cons _).cons _) ?_
  refine N_astq (i := 1) (t := 2) (N := 4) (u := 2) (j := 3) (ci := 4) (r := (RX4, TX4, 2)) dX8_init_109 rfl rfl rfl rfl (Nat.le_of_ble_eq_true rfl) (Nat.le_of_ble_eq_true rfl) ?_
  refine N_perm (ws' := (x0, .inr (8, [.ref a1, .ref a2, .ref a3, .ref a4, .ref a5, .ref a6, .ref S, .ref E, .int 0])) :: (S, .inl (cA 2, 4, .inr (.inr (.inr (.inr (va_up (va_up (va_up (fun _ => none) 0 (some s0)) 1 (some s1)) 2 (some s2))))))) :: (E, .inl (cA 0, 6, .inl (fun _ => 0))) :: (((R ++ shB cA s0 r0 i0) ++ shB cA s1 r1 i1) ++ shB cA s2 r2 i2)) ((((List.perm_append_comm (l₁ := shB cA s2 r2 i2) (l₂ := ((R ++ shB cA s0 r0 i0) ++ shB cA s1 r1 i1))).cons _).cons _).cons _) ?_
  refine N_iinc dX8_init_110 rfl (c0 := 1) (by decide) (by decide) rfl ?_
  refine N_L (L' := [some (.ref x0), some (.int (nI 3))]) (by show [_, some (Value.int (nI 2 + 1))] = _; rw [nI_1]) ?_
  refine N_goto dX8_init_113 (tgt := 88) (by decide) ?_
  refine N_iload_n dX8_init_88 rfl ?_
  refine N_aload_n dX8_init_89 rfl ?_
  refine N_get (i := 0) (j := 6) (v := .ref S) dX8_init_90 jcl_X8 nfX8_45 (by decide) rfl rfl ?_
  refine N_alenq (i := 1) (t := 2) (N := 4) (v := nI 4) dX8_init_93 rfl rfl rfl ?_
  refine N_geF dX8_init_94 (tgt := 116) (by decide) (by decide) ?_
  refine N_aload_n dX8_init_97 rfl ?_
  refine N_get (i := 0) (j := 6) (v := .ref S) dX8_init_98 jcl_X8 nfX8_45 (by decide) rfl rfl ?_
  refine N_iload_n dX8_init_101 rfl ?_
  refine N_new dX8_init_102 jcl_X4 ncX8_43 ni_X4 nn_X4 (fs := [.null, .int 0]) (fun j hj => by rcases (show j = 0 ∨ j = 1 by omega) with rfl | rfl <;> rfl) (Nat.le_of_ble_eq_true rfl) (Nat.le_of_ble_eq_true rfl) (fun s3 => ?_)
  refine N_dup dX8_init_105 rfl ?_
  refine N_initN (as := []) dX8_init_106 nlX8_53 sm4_init rfl rfl im4_init (Nat.le_of_ble_eq_true rfl) rfl (Nat.le_of_ble_eq_true rfl) nc_4 (Nat.le_of_ble_eq_true rfl) (Nat.le_of_ble_eq_true rfl) (fun w hw => ?_)
  obtain ⟨r3, i3, rfl⟩ := hw
  refine N_perm (ws' := (x0, .inr (8, [.ref a1, .ref a2, .ref a3, .ref a4, .ref a5, .ref a6, .ref S, .ref E, .int 0])) :: (S, .inl (cA 2, 4, .inr (.inr (.inr (.inr (va_up (va_up (va_up (fun _ => none) 0 (some s0)) 1 (some s1)) 2 (some s2))))))) :: (E, .inl (cA 0, 6, .inl (fun _ => 0))) :: (shB cA s3 r3 i3 ++ (((R ++ shB cA s0 r0 i0) ++ shB cA s1 r1 i1) ++ shB cA s2 r2 i2))) ((((List.perm_append_comm (l₁ := (((R ++ shB cA s0 r0 i0) ++ shB cA s1 r1 i1) ++ shB cA s2 r2 i2)) (l₂ := shB cA s3 r3 i3)).cons _).cons _).cons _) ?_
  refine N_astq (i := 1) (t := 2) (N := 4) (u := 3) (j := 3) (ci := 4) (r := (RX4, TX4, 2)) dX8_init_109 rfl rfl rfl rfl (Nat.le_of_ble_eq_true rfl) (Nat.le_of_ble_eq_true rfl) ?_
  refine N_perm (ws' := (x0, .inr (8, [.ref a1, .ref a2, .ref a3, .ref a4, .ref a5, .ref a6, .ref S, .ref E, .int 0])) :: (S, .inl (cA 2, 4, .inr (.inr (.inr (.inr (va_up (va_up (va_up (va_up (fun _ => none) 0 (some s0)) 1 (some s1)) 2 (some s2)) 3 (some s3))))))) :: (E, .inl (cA 0, 6, .inl (fun _ => 0))) :: ((((R ++ shB cA s0 r0 i0) ++ shB cA s1 r1 i1) ++ shB cA s2 r2 i2) ++ shB cA s3 r3 i3)) ((((List.perm_append_comm (l₁ := shB cA s3 r3 i3) (l₂ := (((R ++ shB cA s0 r0 i0) ++ shB cA s1 r1 i1) ++ shB cA s2 r2 i2))).cons _).cons _).cons _) ?_
  refine N_iinc dX8_init_110 rfl (c0 := 1) (by decide) (by decide) rfl ?_
  refine N_L (L' := [some (.ref x0), some (.int (nI 4))]) (by show [_, some (Value.int (nI 3 + 1))] = _; rw [nI_1]) ?_
  refine N_goto dX8_init_113 (tgt := 88) (by decide) ?_
  refine N_iload_n dX8_init_88 rfl ?_
  refine N_aload_n dX8_init_89 rfl ?_
  refine N_get (i := 0) (j := 6) (v := .ref S) dX8_init_90 jcl_X8 nfX8_45 (by decide) rfl rfl ?_
  refine N_alenq (i := 1) (t := 2) (N := 4) (v := nI 4) dX8_init_93 rfl rfl rfl ?_
  refine N_geT dX8_init_94 (tgt := 116) (by decide) (by decide) ?_
  refine N_perm (perm_fin _ _ _ R _ _ _ _) ?_
  exact N_ret dX8_init_116 (Nat.le_of_ble_eq_true rfl) (Nat.le_of_ble_eq_true rfl) (hZ S E s0 r0 i0 s1 r1 i1 s2 r2 i2 s3 r3 i3)
end NCT

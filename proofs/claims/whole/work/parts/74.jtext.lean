/-! THE TWO TEXTS: length() and charAt() over the machine, and the check's nameOf -/
section JT
variable {α : Type} {M : JM} {d : Nat} {Pl : List Nat} {emb : α → Option Value × JMu} {pc : Nat} {L : List (Option Value)} {st : List Value} {μ : JMu} {o : Option α}
theorem J_strV {i idx : Nat} (hd : decode M.2.1 pc = .ok (.getfield idx, 3)) (hlk : jWd (.fieldLink M.2.2.2.2 idx "java/lang/String" "value" "[B")) (hi : i < 2) (kk : JF M d Pl emb (pc + 3) L (.ref (204 + i) :: st) μ o) : JF M d Pl emb pc L (.ref (202 + i) :: st) μ o :=
  fun p l e s m args below meth c A D cA ad cx a ho H locs ls hP hD hS hl => vk_getf cx.1.1 cx.1.2.1 (cx.2.2.2.2.2.1.2.2.2.2.1 i hi).2.2.1 hS cx.1.2.2.2 (cx.2.2.1.args hlk _) (fun _ h => h) hd (kk p l e s m args below meth c A D cA ad cx a ho H locs ls hP hD hS hl)
theorem J_strK {i idx : Nat} (hd : decode M.2.1 pc = .ok (.getfield idx, 3)) (hlk : jWd (.fieldLink M.2.2.2.2 idx "java/lang/String" "coder" "B")) (hi : i < 2) (kk : JF M d Pl emb (pc + 3) L (.int 0 :: st) μ o) : JF M d Pl emb pc L (.ref (202 + i) :: st) μ o :=
  fun p l e s m args below meth c A D cA ad cx a ho H locs ls hP hD hS hl => vk_getf cx.1.1 cx.1.2.1 (cx.2.2.2.2.2.1.2.2.2.2.1 i hi).2.1 hS cx.1.2.2.2 (cx.2.2.1.args hlk _) (fun _ h => h) hd (kk p l e s m args below meth c A D cA ad cx a ho H locs ls hP hD hS hl)
theorem J_getsC {idx : Nat} (hd : decode M.2.1 pc = .ok (.getstatic idx, 3)) (hlk : jWd (.fieldLink M.2.2.2.2 idx "java/lang/String" "COMPACT_STRINGS" "Z")) (kk : JF M d Pl emb (pc + 3) L (.int 1 :: st) μ o) : JF M d Pl emb pc L st μ o :=
  fun p l e s m args below meth c A D cA ad cx a ho H locs ls hP hD hS hl => va_gets cx.1.1 cx.1.2.1 cx.2.2.2.2.2.1.2.2.1 hS cx.1.2.2.2 (cx.2.2.1.args hlk _) (fun _ h => h) hd (kk p l e s m args below meth c A D cA ad cx a ho H locs ls hP hD hS hl)
theorem J_getsF {idx : Nat} (hd : decode M.2.1 pc = .ok (.getstatic idx, 3)) (hlk : jWd (.fieldLink M.2.2.2.2 idx "jdk/internal/util/Preconditions" "SIOOBE_FORMATTER" "Ljava/util/function/BiFunction;")) (kk : ∀ x : Option Nat, JF M d Pl emb (pc + 3) L (jn x :: st) μ o) : JF M d Pl emb pc L st μ o :=
  fun p l e s m args below meth c A D cA ad cx a ho H locs ls hP hD hS hl => by
    rcases cx.2.2.2.2.2.1.2.2.2.1 with q | q
    · exact va_gets cx.1.1 cx.1.2.1 q hS cx.1.2.2.2 (cx.2.2.1.args hlk _) (fun _ h => h) hd (kk none p l e s m args below meth c A D cA ad cx a ho H locs ls hP hD hS hl)
    · exact va_gets cx.1.1 cx.1.2.1 q hS cx.1.2.2.2 (cx.2.2.1.args hlk _) (fun _ h => h) hd (kk (some 206) p l e s m args below meth c A D cA ad cx a ho H locs ls hP hD hS hl)
theorem len3 {i : Nat} (hi : i < 2) : ([3, 3] : List Nat).getD i 0 = 3 := by rcases (show i = 0 ∨ i = 1 by omega) with rfl | rfl <;> rfl
theorem J_alenT {i : Nat} (hd : decode M.2.1 pc = .ok (.arraylength, 1)) (hi : i < 2) (kk : JF M d Pl emb (pc + 1) L (.int 3 :: st) μ o) : JF M d Pl emb pc L (.ref (204 + i) :: st) μ o :=
  fun p l e s m args below meth c A D cA ad cx a ho H locs ls hP hD hS hl => va_tlen cx.1.1 cx.1.2.1 (cx.2.2.2.2.2.1.2.2.2.2.1 i hi).2.2.2 hS (by rw [len3 hi]; rfl) hd (kk p l e s m args below meth c A D cA ad cx a ho H locs ls hP hD hS hl)
theorem J_baldT {i k : Nat} {v : Int32} (hd : decode M.2.1 pc = .ok (.baload, 1)) (hi : i < 2) (hk : k < 3) (hv : (([[110, 112, 119], [114, 99, 113]] : List (List Int32)).getD i []).getD k 0 = v) (kk : JF M d Pl emb (pc + 1) L (.int v :: st) μ o) : JF M d Pl emb pc L (.int (nI k) :: .ref (204 + i) :: st) μ o :=
  fun p l e s m args below meth c A D cA ad cx a ho H locs ls hP hD hS hl => va_tb cx.1.1 cx.1.2.1 (cx.2.2.2.2.2.1.2.2.2.2.1 i hi).2.2.2 hS (i := nI k) (by rw [len3 hi]; exact vp_in_nI hk (by omega)) (v := .int v) (by rw [nI_clamp (by omega)]; exact congrArg Value.int hv) hd (kk p l e s m args below meth c A D cA ad cx a ho H locs ls hP hD hS hl)
theorem J_nret {v : Int32} {a : α} {ty : FieldType} (hd : decode M.2.1 pc = .ok (.ireturn, 1)) (hr : M.2.2.2.1 = some ty) (hn : narrow ty (.int v) = .int v) (he : emb a = (some (.int v), μ)) : JF M d Pl emb pc L [.int v] μ (some a) :=
  fun p l e s m args below meth c A D cA ad cx a' ho H locs ls hP hD hS hl => by
    cases ho
    exact W.zret cx.1.1 cx.1.2.1 (cx.2.1.1.trans hr) hn (fun t ht hW => ⟨⟨by rw [he]; rfl, by rw [he, ht]; exact hP⟩, hS.F ht⟩) hS.2.2 hd cx.2.1.2
theorem J_i2c {x : Int32} (hd : decode M.2.1 pc = .ok (.i2c, 1)) (k : JF M d Pl emb (pc + 1) L (.int ((x.toUInt32 % 65536).toInt32) :: st) μ o) : JF M d Pl emb pc L (.int x :: st) μ o :=
  fun p l e s m args below meth c A D cA ad cx a ho H locs ls hP hD hS hl => lv_i2c cx.1.1 cx.1.2.1 hd rfl (k p l e s m args below meth c A D cA ad cx a ho H locs ls hP hD hS hl)
theorem J_callVK {M' : JM} {d' n idx i : Nat} {as : List Value} {v : Int32} (hd : decode M.2.1 pc = .ok (.invokevirtual idx, 3)) (hlk : jWd (.methodLink M.2.2.2.2 idx M'.1)) (hms : jMs M' n) (hw : jWd (.instanceMethod M'.1) ∧ jWd (.selects M'.1.cls M'.1 M'.1)) (hC : M'.1.cls = "java/lang/String") (hi : i < 2) (hdd : d' + 1 ≤ d) (hn : as.length = n) (hst : (st.map fun v => v.category).sum ≤ 8) (hg : JC M' d' Pl (.ref (202 + i) :: as) μ (some (.int v), μ)) (kk : JF M d Pl emb (pc + 3) L (.int v :: st) μ o) : JF M d Pl emb pc L (as.reverse ++ .ref (202 + i) :: st) μ o :=
  fun p l e s m args below meth c A D cA ad cx a ho H locs ls hP hD hS hl => by
    have hpre := jPre (M' := M') (n := n) (as := .ref (202 + i) :: as) cx hP hD hS
    have hrc := vk_recv cx.2.2.2.2.2.1.2.2.2.2 hi hS
    rw [← hC] at hrc
    refine J_run (r := (some (.int v), μ)) (rest := st.map (jv ad)) (va_runV (C := M'.1.cls) (b := ad (202 + i)) (As := as.map (jv ad)) ⟨cx.1.1, cx.1.2.1, cx.1.2.2.1, cx.1.2.2.2, fun w h => absurd h List.not_mem_nil⟩ (hg l D cA ad A cx.2.2.2.2.2.2) ⟨jCB cx hms hlk hdd, cx.2.2.1.args hw.1 _, cx.2.2.1.args hw.2 _⟩ ⟨hpre.1, hrc, hpre.2⟩ rfl (by rw [List.length_map]; exact hn) hl.1 (by simp [List.map_append, List.map_reverse, jv]) (lv_room (by rw [jcat]; exact hst)) hd ⟨Nat.le_refl _, Nat.le_refl _⟩) hS (fun H1 locs1 g1 g2 => ?_)
    rw [jtl]
    exact kk p l e s m args below meth c A D cA ad cx a ho H1 locs1 ls g1 (jW_D hD) g2 hl
end JT
abbrev m_sl : JM := (yJ0_length_8abf5, cJ0_length_8abf5, 1, some .int, RJ0)
theorem s_sl : jMs m_sl 0 := ⟨jWd_t4 (i := 150) rfl rfl, jWd_t1 (i := 14) rfl rfl, by decide +kernel, by decide, rfl⟩
theorem w_sl : jWd (.instanceMethod m_sl.1) ∧ jWd (.selects m_sl.1.cls m_sl.1 m_sl.1) := ⟨jWd_t4 (i := 148) rfl rfl, jWd_t4 (i := 149) rfl rfl⟩
abbrev m_sc : JM := (yJ0_coder_7d493, cJ0_coder_7d493, 1, some .byte, RJ0)
theorem s_sc : jMs m_sc 0 := ⟨jWd_t4 (i := 154) rfl rfl, jWd_t1 (i := 14) rfl rfl, by decide +kernel, by decide, rfl⟩
theorem w_sc : jWd (.instanceMethod m_sc.1) ∧ jWd (.selects m_sc.1.cls m_sc.1 m_sc.1) := ⟨jWd_t4 (i := 152) rfl rfl, jWd_t4 (i := 153) rfl rfl⟩
abbrev m_si : JM := (yJ0_isLatin1_aae02, cJ0_isLatin1_aae02, 1, some .boolean, RJ0)
theorem s_si : jMs m_si 0 := ⟨jWd_t4 (i := 164) rfl rfl, jWd_t1 (i := 14) rfl rfl, by decide +kernel, by decide, rfl⟩
theorem w_si : jWd (.instanceMethod m_si.1) ∧ jWd (.selects m_si.1.cls m_si.1 m_si.1) := ⟨jWd_t4 (i := 162) rfl rfl, jWd_t4 (i := 163) rfl rfl⟩
abbrev m_sa : JM := (yJ0_charAt_5068e, cJ0_charAt_5068e, 2, some .char, RJ0)
theorem s_sa : jMs m_sa 1 := ⟨jWd_t4 (i := 160) rfl rfl, jWd_t1 (i := 14) rfl rfl, by decide +kernel, by decide, rfl⟩
theorem w_sa : jWd (.instanceMethod m_sa.1) ∧ jWd (.selects m_sa.1.cls m_sa.1 m_sa.1) := ⟨jWd_t4 (i := 158) rfl rfl, jWd_t4 (i := 159) rfl rfl⟩
abbrev m_sk : JM := (yJ0_checkIndex_df160, cJ0_checkIndex_df160, 2, none, RJ0)
theorem s_sk : jMs m_sk 2 := ⟨jWd_t4 (i := 170) rfl rfl, jWd_t1 (i := 14) rfl rfl, by decide +kernel, by decide, rfl⟩
theorem w_sk : jWd (.static m_sk.1) := jWd_t4 (i := 169) rfl rfl
abbrev m_lc : JM := (yJ1_charAt_3b067, cJ1_charAt_3b067, 2, some .char, RJ1)
theorem s_lc : jMs m_lc 2 := ⟨jWd_t4 (i := 167) rfl rfl, jWd_t1 (i := 15) rfl rfl, by decide +kernel, by decide, rfl⟩
theorem w_lc : jWd (.static m_lc.1) := jWd_t4 (i := 166) rfl rfl
abbrev m_pk : JM := (yJ3_checkIndex_8e157, cJ3_checkIndex_8e157, 3, some .int, RJ3)
theorem s_pk : jMs m_pk 3 := ⟨jWd_t4 (i := 175) rfl rfl, jWd_t1 (i := 16) rfl rfl, by decide +kernel, by decide, rfl⟩
theorem w_pk : jWd (.static m_pk.1) := jWd_t4 (i := 174) rfl rfl
theorem k_sc : jWd (.methodLink "java/lang/String" 335 m_sc.1) := jWd_t4 (i := 151) rfl rfl
theorem k_si : jWd (.methodLink "java/lang/String" 492 m_si.1) := jWd_t4 (i := 161) rfl rfl
theorem k_lc : jWd (.methodLink "java/lang/String" 495 m_lc.1) := jWd_t4 (i := 165) rfl rfl
theorem k_sk : jWd (.methodLink "java/lang/StringLatin1" 9 m_sk.1) := jWd_t4 (i := 168) rfl rfl
theorem k_pk : jWd (.methodLink "java/lang/String" 1059 m_pk.1) := jWd_t4 (i := 173) rfl rfl
theorem k_sl : jWd (.methodLink "MoonRoomsModel" 129 m_sl.1) := jWd_t4 (i := 147) rfl rfl
theorem k_sa : jWd (.methodLink "MoonRoomsModel" 132 m_sa.1) := jWd_t4 (i := 157) rfl rfl
theorem k_fC : jWd (.fieldLink "java/lang/String" 38 "java/lang/String" "COMPACT_STRINGS" "Z") := jWd_t4 (i := 155) rfl rfl
theorem k_fF : jWd (.fieldLink "java/lang/String" 1053 "jdk/internal/util/Preconditions" "SIOOBE_FORMATTER" "Ljava/util/function/BiFunction;") := jWd_t4 (i := 171) rfl rfl
theorem k_fV : jWd (.fieldLink "java/lang/String" 9 "java/lang/String" "value" "[B") := jWd_t6 (i := 79) rfl rfl
theorem k_fK : jWd (.fieldLink "java/lang/String" 15 "java/lang/String" "coder" "B") := jWd_t6 (i := 80) rfl rfl
theorem wX9_28 : jFd "MoonRoomsModel" 28 9 5 (.array (.object "java/lang/String")) true := ⟨RX9, TX9, 26, tyX9, jcl_X9, by decide, ⟨rfl, rfl⟩, (Or.inl (jWd_t4 (i := 13) rfl rfl))⟩
section JT2
variable {α : Type} {M : JM} {d : Nat} {Pl : List Nat} {emb : α → Option Value × JMu} {pc : Nat} {L : List (Option Value)} {st : List Value} {μ : JMu} {o : Option α}
theorem J_eqT {x : Int32} {off : Int} {tgt : Nat} (hd : decode M.2.1 pc = .ok (.ifCond .eq off, 3)) (ht : (pc : Int) + off = (tgt : Int)) (h : x = 0) (k : JF M d Pl emb tgt L st μ o) : JF M d Pl emb pc L (.int x :: st) μ o := by
  have q := J_if_eq (o1 := o) (o2 := o) hd ht (fun _ => k) (fun n => absurd h n)
  rw [ite_self] at q; exact q
theorem J_eqF {x : Int32} {off : Int} {tgt : Nat} (hd : decode M.2.1 pc = .ok (.ifCond .eq off, 3)) (ht : (pc : Int) + off = (tgt : Int)) (h : ¬ x = 0) (k : JF M d Pl emb (pc + 3) L st μ o) : JF M d Pl emb pc L (.int x :: st) μ o := by
  have q := J_if_eq (o1 := o) (o2 := o) hd ht (fun n => absurd n h) (fun _ => k)
  rw [ite_self] at q; exact q
theorem J_neF {x : Int32} {off : Int} {tgt : Nat} (hd : decode M.2.1 pc = .ok (.ifCond .ne off, 3)) (ht : (pc : Int) + off = (tgt : Int)) (h : x = 0) (k : JF M d Pl emb (pc + 3) L st μ o) : JF M d Pl emb pc L (.int x :: st) μ o := by
  have q := J_if_ne (o1 := o) (o2 := o) hd ht (fun _ => k) (fun n => absurd h n)
  rw [ite_self] at q; exact q
theorem J_ltF {x : Int32} {off : Int} {tgt : Nat} (hd : decode M.2.1 pc = .ok (.ifCond .lt off, 3)) (ht : (pc : Int) + off = (tgt : Int)) (h : ¬ x < 0) (k : JF M d Pl emb (pc + 3) L st μ o) : JF M d Pl emb pc L (.int x :: st) μ o := by
  have q := J_if_lt (o1 := o) (o2 := o) hd ht (fun n => absurd n h) (fun _ => k)
  rw [ite_self] at q; exact q
theorem J_ilT {x y : Int32} {off : Int} {tgt : Nat} (hd : decode M.2.1 pc = .ok (.if_icmp .lt off, 3)) (ht : (pc : Int) + off = (tgt : Int)) (h : x < y) (k : JF M d Pl emb tgt L st μ o) : JF M d Pl emb pc L (.int y :: .int x :: st) μ o := by
  have q := J_icmp_lt (o1 := o) (o2 := o) hd ht (fun _ => k) (fun n => absurd h n)
  rw [ite_self] at q; exact q
theorem J_callS1 {M' : JM} {d' n idx : Nat} {as : List Value} {r : Option Value × JMu} (hd : decode M.2.1 pc = .ok (.invokestatic idx, 3)) (hlk : jWd (.methodLink M.2.2.2.2 idx M'.1)) (hms : jMs M' n) (hw : jWd (.static M'.1)) (hdd : d' + 1 ≤ d) (hn : as.length = n) (hst : (st.map fun v => v.category).sum ≤ 8) (hg : JC M' d' Pl as μ r) (kk : JF M d Pl emb (pc + 3) L (r.1.toList ++ st) r.2 o) : JF M d Pl emb pc L (as.reverse ++ st) μ o :=
  J_callS (β := Unit) (g := some ()) (emb' := fun _ => r) (κ := fun _ => o) hd hlk hms hw hdd hn hst (fun _ _ => hg) (fun _ => kk)
end JT2
section JT3
variable {Pl : List Nat} {i k : Nat}
theorem ct_sc (hi : i < 2) (μ : JMu) : JC m_sc 0 Pl [.ref (202 + i)] μ (some (.int 0), μ) := by
  refine JC_of (emb := fun b : Int32 => (some (.int b), μ)) (o := some 0) (L0 := [some (.ref (202 + i))]) s_sc (Nat.le_of_ble_eq_true rfl) rfl ?_ 0 rfl
  refine J_getsC dJ0_coder_7d493_0 k_fC ?_
  refine J_eqF dJ0_coder_7d493_3 (tgt := 13) (by decide) (by decide) ?_
  refine J_aload_n dJ0_coder_7d493_6 rfl ?_
  refine J_strK dJ0_coder_7d493_7 k_fK hi ?_
  refine J_goto dJ0_coder_7d493_10 (tgt := 14) (by decide) ?_
  exact J_nret (ty := .byte) dJ0_coder_7d493_14 rfl (by decide) rfl
theorem ct_si (hi : i < 2) (μ : JMu) : JC m_si 0 Pl [.ref (202 + i)] μ (some (.int 1), μ) := by
  refine JC_of (emb := fun b : Int32 => (some (.int b), μ)) (o := some 1) (L0 := [some (.ref (202 + i))]) s_si (Nat.le_of_ble_eq_true rfl) rfl ?_ 1 rfl
  refine J_getsC dJ0_isLatin1_aae02_0 k_fC ?_
  refine J_eqF dJ0_isLatin1_aae02_3 (tgt := 17) (by decide) (by decide) ?_
  refine J_aload_n dJ0_isLatin1_aae02_6 rfl ?_
  refine J_strK dJ0_isLatin1_aae02_7 k_fK hi ?_
  refine J_neF dJ0_isLatin1_aae02_10 (tgt := 17) (by decide) rfl ?_
  refine J_iconst (v := 1) dJ0_isLatin1_aae02_13 (by decide) ?_
  refine J_goto dJ0_isLatin1_aae02_14 (tgt := 18) (by decide) ?_
  exact J_zret dJ0_isLatin1_aae02_18 rfl (Or.inr rfl) rfl
theorem ct_sl (hi : i < 2) (μ : JMu) : JC m_sl 1 Pl [.ref (202 + i)] μ (some (.int 3), μ) := by
  refine JC_of (emb := fun b : Int32 => (some (.int b), μ)) (o := some 3) (L0 := [some (.ref (202 + i))]) s_sl (Nat.le_of_ble_eq_true rfl) rfl ?_ 3 rfl
  refine J_aload_n dJ0_length_8abf5_0 rfl ?_
  refine J_strV dJ0_length_8abf5_1 k_fV hi ?_
  refine J_alenT dJ0_length_8abf5_4 hi ?_
  refine J_aload_n dJ0_length_8abf5_5 rfl ?_
  refine J_callVK (M' := m_sc) (as := []) dJ0_length_8abf5_6 k_sc s_sc w_sc rfl hi (Nat.le_refl _) rfl (Nat.le_of_ble_eq_true rfl) (ct_sc hi μ) ?_
  refine J_ishr dJ0_length_8abf5_9 ?_
  rw [show ((3 : Int32) >>> ((0 : Int32) &&& 31)) = 3 by decide]
  exact J_iret dJ0_length_8abf5_10 rfl rfl
theorem ct_pk (hk : k < 3) (x : Option Nat) (μ : JMu) : JC m_pk 0 Pl [.int (nI k), .int 3, jn x] μ (some (.int (nI k)), μ) := by
  have hL : ∀ x : Option Nat, (jE [.int (nI k), .int 3, jn x]) = [some (.int (nI k)), some (.int 3), some (jn x)] := by intro x; cases x <;> rfl
  refine JC_of (emb := fun b : Int32 => (some (.int b), μ)) (o := some (nI k)) (L0 := [some (.int (nI k)), some (.int 3), some (jn x)]) s_pk (by rw [hL]; exact Nat.le_of_ble_eq_true rfl) (by rw [hL]; rfl) ?_ (nI k) rfl
  refine J_iload_n dJ3_checkIndex_8e157_0 rfl ?_
  refine J_ltF dJ3_checkIndex_8e157_1 (tgt := 9) (by decide) (nI_pos (by omega)) ?_
  refine J_iload_n dJ3_checkIndex_8e157_4 rfl ?_
  refine J_iload_n dJ3_checkIndex_8e157_5 rfl ?_
  refine J_ilT dJ3_checkIndex_8e157_6 (tgt := 16) (by decide) (by show nI k < nI 3; rw [ltI (by omega) (by omega)]; exact hk) ?_
  refine J_iload_n dJ3_checkIndex_8e157_16 rfl ?_
  exact J_iret dJ3_checkIndex_8e157_17 rfl rfl
theorem ct_sk (hk : k < 3) (μ : JMu) : JC m_sk 1 Pl [.int (nI k), .int 3] μ (none, μ) := by
  refine JC_of (emb := fun _ : Unit => (none, μ)) (o := some ()) (L0 := [some (.int (nI k)), some (.int 3)]) s_sk (Nat.le_of_ble_eq_true rfl) rfl ?_ () rfl
  refine J_iload_n dJ0_checkIndex_df160_0 rfl ?_
  refine J_iload_n dJ0_checkIndex_df160_1 rfl ?_
  refine J_getsF dJ0_checkIndex_df160_2 k_fF (fun x => ?_)
  refine J_callS1 (M' := m_pk) (as := [.int (nI k), .int 3, jn x]) dJ0_checkIndex_df160_5 k_pk s_pk w_pk (Nat.le_refl _) rfl (Nat.le_of_ble_eq_true rfl) (ct_pk hk x μ) ?_
  refine J_pop dJ0_checkIndex_df160_8 rfl ?_
  exact J_vret dJ0_checkIndex_df160_9 rfl rfl
def jch (i k : Nat) : Int32 := (jtx (202 + i)).getD k 0
theorem jch_all : ∀ i, i < 2 → ∀ k, k < 3 → (([[110, 112, 119], [114, 99, 113]] : List (List Int32)).getD i []).getD k 0 = jch i k ∧ ((jch i k &&& 255).toUInt32 % 65536).toInt32 = jch i k ∧ narrow .char (.int (jch i k)) = .int (jch i k) := by decide +kernel
theorem ct_lc (hi : i < 2) (hk : k < 3) (μ : JMu) : JC m_lc 2 Pl [.ref (204 + i), .int (nI k)] μ (some (.int (jch i k)), μ) := by
  obtain ⟨h1, h2, h3⟩ := jch_all i hi k hk
  refine JC_of (emb := fun b : Int32 => (some (.int b), μ)) (o := some (jch i k)) (L0 := [some (.ref (204 + i)), some (.int (nI k))]) s_lc (Nat.le_of_ble_eq_true rfl) rfl ?_ (jch i k) rfl
  refine J_iload_n dJ1_charAt_3b067_0 rfl ?_
  refine J_aload_n dJ1_charAt_3b067_1 rfl ?_
  refine J_alenT dJ1_charAt_3b067_2 hi ?_
  refine J_callS1 (M' := m_sk) (as := [.int (nI k), .int 3]) dJ1_charAt_3b067_3 k_sk s_sk w_sk (Nat.le_refl _) rfl (Nat.le_of_ble_eq_true rfl) (ct_sk hk μ) ?_
  refine J_aload_n dJ1_charAt_3b067_6 rfl ?_
  refine J_iload_n dJ1_charAt_3b067_7 rfl ?_
  refine J_baldT dJ1_charAt_3b067_8 hi hk h1 ?_
  refine J_sipush (v := 255) dJ1_charAt_3b067_9 (by decide) ?_
  refine J_iand dJ1_charAt_3b067_12 ?_
  refine J_i2c dJ1_charAt_3b067_13 ?_
  rw [h2]
  exact J_nret (ty := .char) dJ1_charAt_3b067_14 rfl h3 rfl
theorem ct_sa (hi : i < 2) (hk : k < 3) (μ : JMu) : JC m_sa 3 Pl [.ref (202 + i), .int (nI k)] μ (some (.int (jch i k)), μ) := by
  obtain ⟨-, -, h3⟩ := jch_all i hi k hk
  refine JC_of (emb := fun b : Int32 => (some (.int b), μ)) (o := some (jch i k)) (L0 := [some (.ref (202 + i)), some (.int (nI k))]) s_sa (Nat.le_of_ble_eq_true rfl) rfl ?_ (jch i k) rfl
  refine J_aload_n dJ0_charAt_5068e_0 rfl ?_
  refine J_callVK (M' := m_si) (as := []) dJ0_charAt_5068e_1 k_si s_si w_si rfl hi (Nat.le_of_ble_eq_true rfl) rfl (Nat.le_of_ble_eq_true rfl) (ct_si hi μ) ?_
  refine J_eqF dJ0_charAt_5068e_4 (tgt := 16) (by decide) (by decide) ?_
  refine J_aload_n dJ0_charAt_5068e_7 rfl ?_
  refine J_strV dJ0_charAt_5068e_8 k_fV hi ?_
  refine J_iload_n dJ0_charAt_5068e_11 rfl ?_
  refine J_callS1 (M' := m_lc) (as := [.ref (204 + i), .int (nI k)]) dJ0_charAt_5068e_12 k_lc s_lc w_lc (Nat.le_refl _) rfl (Nat.le_of_ble_eq_true rfl) (ct_lc hi hk μ) ?_
  exact J_nret (ty := .char) dJ0_charAt_5068e_15 rfl h3 rfl
end JT3
theorem jel_91 : ∀ u, u < 2 → jel 91 u = some (202 + u) := by decide +kernel
theorem jtx_len : ∀ u, u < 2 → Int32.ofNat (jtx (202 + u)).length = 3 ∧ (jtx (202 + u)).length = 3 := by decide +kernel
theorem c9_nameOf_b4 (a1 : Int32) (μ : JMu) {u : Nat} (hin : vp_in (μ 86 8) 2) (hu : (μ 86 8).toNatClampNeg = u) (u2 : u < 2) : ∀ (n : Nat) (v2 v3 : Int32), JF m9_nameOf 9 mPl (fun b : Int32 => (some (.int b), μ)) 4 [some (.ref 86), some (.int a1), some (.int v2), some (.int v3)] [] μ (f9_nameOf_b4 a1 (jtx (202 + u)) n v2 v3) := by
  intro n
  induction n with
  | zero => intro v2 v3; exact JF_none
  | succ n ih =>
    intro v2 v3
    obtain ⟨l1, l2⟩ := jtx_len u u2
    have ej : jn (jel 91 u) = .ref (202 + u) := by rw [jel_91 u u2]; rfl
    unfold f9_nameOf_b4
    rw [l1, l2]
    refine J_iload_n dX9_nameOf_4 rfl ?_
    refine J_aload_n dX9_nameOf_5 rfl ?_
    refine J_getR dX9_nameOf_6 wX9_28 rfl jo_mPl_86 (r := 91) (by decide +kernel) ?_
    refine J_aload_n dX9_nameOf_9 rfl ?_
    refine J_getI dX9_nameOf_10 wX9_126 rfl jo_mPl_86 ?_
    refine J_aald (t := 3) (n := 2) (C := "java/lang/String") dX9_nameOf_13 (by decide +kernel) (fun _ => rfl) (by decide +kernel) hin hu ?_
    rw [ej]
    refine J_callVK (M' := m_sl) (as := []) dX9_nameOf_14 k_sl s_sl w_sl rfl u2 (Nat.le_of_ble_eq_true rfl) rfl (Nat.le_of_ble_eq_true rfl) (ct_sl u2 μ) ?_
    refine J_icmp_ge dX9_nameOf_17 (tgt := 49) (by decide) (fun c1 => ?_) (fun c1 => ?_)
    · refine J_iload_n dX9_nameOf_49 rfl ?_
      exact J_iret dX9_nameOf_50 rfl rfl
    · refine JF_chk (fun c2 => ?_)
      obtain ⟨k, k3, rfl⟩ := jin_of c2 (by omega)
      rw [nI_clamp (by omega)]
      rw [show f9_nameOf_b4 a1 (jtx (202 + u)) n (if (jtx (202 + u)).getD k 0 = a1 then nI k else v2) (nI k + 1) = if jch u k = a1 then f9_nameOf_b4 a1 (jtx (202 + u)) n (nI k) (nI k + 1) else f9_nameOf_b4 a1 (jtx (202 + u)) n v2 (nI k + 1) from by unfold jch; split <;> rfl]
      refine J_aload_n dX9_nameOf_20 rfl ?_
      refine J_getR dX9_nameOf_21 wX9_28 rfl jo_mPl_86 (r := 91) (by decide +kernel) ?_
      refine J_aload_n dX9_nameOf_24 rfl ?_
      refine J_getI dX9_nameOf_25 wX9_126 rfl jo_mPl_86 ?_
      refine J_aald (t := 3) (n := 2) (C := "java/lang/String") dX9_nameOf_28 (by decide +kernel) (fun _ => rfl) (by decide +kernel) hin hu ?_
      rw [ej]
      refine J_iload_n dX9_nameOf_29 rfl ?_
      refine J_callVK (M' := m_sa) (as := [.int (nI k)]) dX9_nameOf_30 k_sa s_sa w_sa rfl u2 (Nat.le_of_ble_eq_true rfl) rfl (Nat.le_of_ble_eq_true rfl) (ct_sa u2 k3 μ) ?_
      refine J_iload_n dX9_nameOf_33 rfl ?_
      refine J_icmp_ne dX9_nameOf_34 (tgt := 41) (by decide) (fun c3 => ?_) (fun c3 => ?_)
      · refine J_iload_n dX9_nameOf_37 rfl ?_
        refine J_goto dX9_nameOf_38 (tgt := 42) (by decide) ?_
        refine J_istore_n dX9_nameOf_42 (by decide) rfl ?_
        refine J_iinc dX9_nameOf_43 rfl (c0 := 1) (by decide) (by decide) rfl ?_
        refine J_goto dX9_nameOf_46 (tgt := 4) (by decide) ?_
        exact ih (nI k) (nI k + 1)
      · refine J_iload_n dX9_nameOf_41 rfl ?_
        refine J_istore_n dX9_nameOf_42 (by decide) rfl ?_
        refine J_iinc dX9_nameOf_43 rfl (c0 := 1) (by decide) (by decide) rfl ?_
        refine J_goto dX9_nameOf_46 (tgt := 4) (by decide) ?_
        exact ih v2 (nI k + 1)
theorem c9_nameOf (a1 : Int32) (μ : JMu) : ∀ b, f9_nameOf a1 μ = some b → JC m9_nameOf 9 mPl [.ref 86, .int (a1)] μ (some (.int b), μ) := by
  refine JC_of (emb := fun b : Int32 => (some (.int b), μ)) (L0 := [some (.ref 86), some (.int a1), none, none]) sm9_nameOf (Nat.le_of_ble_eq_true rfl) rfl ?_
  unfold f9_nameOf
  refine JF_chk (fun c1 => ?_)
  have hin := jin_spec c1
  have u2 : (μ 86 8).toNatClampNeg < 2 := by
    obtain ⟨k, k2, e⟩ := jin_of c1 (by omega)
    rw [e, nI_clamp (by omega)]; exact k2
  refine J_iconst (v := -1) dX9_nameOf_0 (by decide) ?_
  refine J_istore_n dX9_nameOf_1 (by decide) rfl ?_
  refine J_iconst (v := 0) dX9_nameOf_2 (by decide) ?_
  refine J_istore_n dX9_nameOf_3 (by decide) rfl ?_
  exact c9_nameOf_b4 a1 μ hin rfl u2 jN (-1) 0

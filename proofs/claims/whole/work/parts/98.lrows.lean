/-! THE LAW'S ROWS: the class's cells and the check's, side by side; place 300 is the script -/
def LX (p : Program) (s : State) (mm : MethodId) (meth : Method) (cc : Code) (L : Nat) (xs : Nat → Int32) (D : va_G) (cA : Nat → ClassId) (ad : Nat → Nat) : Prop :=
  (p.tables.exec = Jvm.exec ∧ cc.code = code ∧ cc.maxLocals = 4 ∧ s.vm.findClass "MoonRoomsLaw" = some mm.cls) ∧ meth.locks = false ∧ jTW s ∧ va_K D vwCl (jty cA) s ∧ jSt ad (fun q => s.heap.size ≤ q) s ∧ (va_X (ad 300) L xs s s.heap ∧ ad 300 < s.heap.size) ∧ (∀ c m : JMu, va_D (fun q => s.heap.size ≤ q) (jW ad cA c cPl ++ jW ad cA m mPl)) ∧ meth.sig.returnType = ret
def LW (p : Program) (l : Launch) (e : Env) (s : State) (mm : MethodId) (below : List Frame) (meth : Method) (cc : Code) (D : va_G) (cA : Nat → ClassId) (ad : Nat → Nat) (pc : Nat) (st : List Value) (x : Int32) (c m : JMu) : Prop :=
  ∀ (H : Heap) (locs : List Loc) (ls : Array Slot), va_P D vwCl (jW ad cA c cPl) H → va_P D vwCl (jW ad cA m mPl) H → va_S (fun q => s.heap.size ≤ q) s.heap H locs → lv_has ls 4 [(0, .ref (ad 300)), (1, .ref (ad 0)), (2, .ref (ad 86)), (3, .int x)] →
  W p l e room_1 s mm #[.ref (ad 300)] below meth cc H locs 102 2411 (lw_Z below #[.ref (ad 300)] s) (F0 mm pc ls (st.map (jv ad)))
theorem va_D_left {A : Nat → Prop} {w1 w2 : va_W} (h : va_D A (w1 ++ w2)) : va_D A w1 :=
  ⟨fun i j x y hi hj e => h.1 i j x y ((List.getElem?_append_left (List.getElem?_eq_some_iff.mp hi).1).trans hi) ((List.getElem?_append_left (List.getElem?_eq_some_iff.mp hj).1).trans hj) e, fun j y hj => h.2 j y ((List.getElem?_append_left (List.getElem?_eq_some_iff.mp hj).1).trans hj)⟩
theorem va_D_apart {A : Nat → Prop} {w1 w2 : va_W} (h : va_D A (w1 ++ w2)) {i j : Nat} {x y : Nat × va_E} (hi : w1[i]? = some x) (hj : w2[j]? = some y) : x.1 ≠ y.1 := by
  intro e
  have h1 := (List.getElem?_append_left (l₂ := w2) (List.getElem?_eq_some_iff.mp hi).1).trans hi
  have h2 : (w1 ++ w2)[w1.length + j]? = some y := by rw [List.getElem?_append_right (by omega), show w1.length + j - w1.length = j by omega]; exact hj
  have := h.1 i (w1.length + j) x y h1 h2 e
  have := (List.getElem?_eq_some_iff.mp hi).1
  omega
section LAW
variable {p : Program} {l : Launch} {e : Env} {s : State} {mm : MethodId} {below : List Frame} {meth : Method} {cc : Code} {L : Nat} {xs : Nat → Int32} {D : va_G} {cA : Nat → ClassId} {ad : Nat → Nat}
/-- a call of either object's method: the other's cells stay -/
theorem L_core {M' : JM} {d' n idx q ci pc : Nat} {as st : List Value} {r : Option Value × JMu} {Pl1 Pl2 : List Nat} {μ1 μ2 : JMu} {H : Heap} {locs : List Loc} {ls : Array Slot} {Q : State → Prop} (cx : LX p s mm meth cc L xs D cA ad) (nd : va_nd Pl1 = true) (hO : jO Pl1 q ci = true) (hci : ∃ (T : u_T) (N : Nat), vwCl[ci]? = some (M'.1.cls, T, N)) (hd : decode code pc = .ok (.invokevirtual idx, 3)) (hlk : jWd (.methodLink "MoonRoomsLaw" idx M'.1)) (hms : jMs M' n) (hw : jWd (.instanceMethod M'.1) ∧ jWd (.selects M'.1.cls M'.1 M'.1)) (hdd : d' + 1 ≤ 2048) (hn : as.length = n) (hst : (st.map fun v => v.category).sum ≤ 8)
    (hD : va_D (fun z => s.heap.size ≤ z) (jW ad cA μ1 Pl1 ++ jW ad cA μ2 Pl2)) (hP1 : va_P D vwCl (jW ad cA μ1 Pl1) H) (hP2 : va_P D vwCl (jW ad cA μ2 Pl2) H) (hS : va_S (fun z => s.heap.size ≤ z) s.heap H locs) (hsz : ls.size = 4) (hg : JC M' d' Pl1 (.ref q :: as) μ1 r)
    (kk : ∀ (H1 : Heap) (locs1 : List Loc), va_P D vwCl (jW ad cA r.2 Pl1) H1 → va_P D vwCl (jW ad cA μ2 Pl2) H1 → va_S (fun z => s.heap.size ≤ z) s.heap H1 locs1 → W p l e room_1 s mm #[.ref (ad 300)] below meth cc H1 locs1 102 2411 Q (F0 mm (pc + 3) ls ((r.1.toList ++ st).map (jv ad)))) : W p l e room_1 s mm #[.ref (ad 300)] below meth cc H locs 102 2411 Q (F0 mm pc ls ((as.reverse ++ .ref q :: st).map (jv ad))) := by
  obtain ⟨⟨hx, hb, hml, hown⟩, -, jt, hK, jst, -, -, -⟩ := cx
  obtain ⟨w1, w2, ⟨-, w3, w4, w5⟩, w6, -⟩ := hms
  obtain ⟨i, fs, hi, hs, -⟩ := jO_spec hO
  have he := jW_get (ad := ad) (cA := cA) (μ := μ1) hi
  rw [jCell_O hs] at he
  obtain ⟨T, N, hci⟩ := hci
  have hD1 := va_D_left hD
  have hF : ∀ z, va_A (jW ad cA μ1 Pl1) H.size z → s.heap.size ≤ z := by
    rintro z (⟨j, y, hj⟩ | hz)
    · exact hD1.2 j _ hj
    · exact Nat.le_trans hS.1 hz
  have hpre : PreV s H M'.1.cls (ad q) (fun v U => v = (((Value.ref q) :: as).map (jv ad)).toArray ∧ (∀ z : Nat, U.heap.size ≤ z → va_A (jW ad cA μ1 Pl1) H.size z) ∧ va_P D vwCl (jW ad cA μ1 Pl1) U.heap ∧ va_D (va_A (jW ad cA μ1 Pl1) H.size) (jW ad cA μ1 Pl1) ∧ va_K D vwCl (jty cA) U ∧ jTW U ∧ jSt ad (va_A (jW ad cA μ1 Pl1) H.size) U) (as.map (jv ad)) := by
    refine ⟨fun a U g mk h => ?_, va_recv hK hP1 hci he, fun U hU hW => ?_⟩
    · obtain ⟨h1, h2, h3, h4, h5, h6, h7⟩ := h
      exact ⟨h1, h2, h3, h4, va_K.moved (u := U) (U := U.calling g mk a) (Vm.Alike.refl U.vm) h5, jTW.warm (s := U) (U := U.calling g mk a) h6 (State.WarmedH.refl U), jSt.eq (s := U) (U := U.calling g mk a) h7 rfl (Vm.Alike.refl U.vm)⟩
    · exact ⟨rfl, fun z h => Or.inr (by rw [hU] at h; exact h), by rw [hU]; exact hP1, ⟨hD1.1, fun j y hj => Or.inl ⟨j, y.2, hj⟩⟩, va_K.moved hW.alike hK, jt.warm hW, (jst.next hS hU hW).narrow hF⟩
  have hr := va_runV (p := p) (l := l) (e := e) (R := room_1) (s := s) (m := mm) (args := #[.ref (ad 300)]) (below := below) (meth := meth) (c := cc) (H := H) (locs := locs) (cells := 102) (slots := 2411) (mc := 0) (ms := 0) (nL := 4) (cc := code) (own := "MoonRoomsLaw") (Ts := []) (index := idx) (C := M'.1.cls) (b := ad q) (As := as.map (jv ad)) (rest := st.map (jv ad)) (g := F0 mm pc ls ((as.reverse ++ .ref q :: st).map (jv ad)))
    ⟨hx, hb, hml, hown, fun w h => absurd h List.not_mem_nil⟩ (hg l D cA ad (va_A (jW ad cA μ1 Pl1) H.size) nd) ⟨⟨rfl, rfl, hdd, by show 8 + (M'.2.2.1 + 11) + 40 * d' ≤ 84000; omega, fun w hw a' U hW => by rw [List.mem_singleton.mp hw]; exact (jt.warm hW).args w1 a', List.mem_cons_self, jt.args w1 _, jt.args w2 _, ⟨w3, w4⟩, fun sig h => by rw [h] at w5; exact (Option.some.inj w5).symm, jt.args hlk _⟩, jt.args hw.1 _, jt.args hw.2 _⟩ hpre rfl (by rw [List.length_map]; exact hn) hsz (by simp [List.map_append, List.map_reverse, jv]) (lv_room (by rw [jcat]; exact hst)) hd ⟨Nat.le_of_ble_eq_true rfl, Nat.le_of_ble_eq_true rfl⟩
  intro T' hT X
  obtain ⟨v, st₀, t, T1, L1, h0, X', hL, e1, e2, ⟨⟨hv, hp⟩, hz, hk⟩, stp⟩ := hr T' hT X
  have hv' : v = r.1.map (jv ad) := by cases hv; rfl
  rw [hv'] at stp
  rw [h0] at hz hk
  have stp' : Goes p e below T' (F0 mm pc ls ((as.reverse ++ .ref q :: st).map (jv ad))) T1 (F0 mm (pc + 3) ls ((r.1.toList ++ st).map (jv ad))) := by
    rw [← jtl]; exact stp
  obtain ⟨t2, a1, b1⟩ := kk T1.heap (locs ++ L1) (by rw [e1]; exact hp)
    (fun j y hj => (hP2 j y hj).kept (by
      rw [e1]
      refine hk y.1 (hP2 j y hj).lt ?_
      rintro (⟨i2, z, hi2⟩ | h)
      · exact va_D_apart hD hi2 hj rfl
      · have := (hP2 j y hj).lt; omega))
    ⟨Nat.le_trans hS.1 (by rw [e1]; exact hz), fun z h1 h2 => by rw [e1, hk z (Nat.lt_of_lt_of_le h1 hS.1) (fun g => h2 (hF z g))]; exact hS.2.1 z h1 h2, fun z hz => by
      rcases List.mem_append.mp hz with h | h
      · exact hS.2.2 z h
      · exact hF _ (hL z h)⟩ T1 rfl X'
  exact ⟨t2, stp' t2 a1, b1⟩
variable {pc : Nat} {st : List Value} {x : Int32} {c m : JMu}
theorem nd_c : va_nd cPl = true := by decide +kernel
theorem nd_m : va_nd mPl = true := by decide +kernel
theorem L_callC {M' : JM} {d' n idx : Nat} {as : List Value} {r : Option Value × JMu} (cx : LX p s mm meth cc L xs D cA ad) (hd : decode code pc = .ok (.invokevirtual idx, 3)) (hlk : jWd (.methodLink "MoonRoomsLaw" idx M'.1)) (hms : jMs M' n) (hw : jWd (.instanceMethod M'.1) ∧ jWd (.selects M'.1.cls M'.1 M'.1)) (hC : M'.1.cls = RX8) (hdd : d' + 1 ≤ 2048) (hn : as.length = n) (hst : (st.map fun v => v.category).sum ≤ 8) (hg : JC M' d' cPl (.ref 0 :: as) c r)
    (kk : LW p l e s mm below meth cc D cA ad (pc + 3) (r.1.toList ++ st) x r.2 m) : LW p l e s mm below meth cc D cA ad pc (as.reverse ++ .ref 0 :: st) x c m :=
  fun H locs ls h1 h2 hS hl => L_core cx nd_c (ci := 8) (by decide +kernel) ⟨TX8, 9, by rw [hC]; rfl⟩ hd hlk hms hw hdd hn hst (cx.2.2.2.2.2.2.1 c m) h1 h2 hS hl.1 hg (fun H1 locs1 g1 g2 g3 => kk H1 locs1 ls g1 g2 g3 hl)
theorem L_callM {M' : JM} {d' n idx : Nat} {as : List Value} {r : Option Value × JMu} (cx : LX p s mm meth cc L xs D cA ad) (hd : decode code pc = .ok (.invokevirtual idx, 3)) (hlk : jWd (.methodLink "MoonRoomsLaw" idx M'.1)) (hms : jMs M' n) (hw : jWd (.instanceMethod M'.1) ∧ jWd (.selects M'.1.cls M'.1 M'.1)) (hC : M'.1.cls = RX9) (hdd : d' + 1 ≤ 2048) (hn : as.length = n) (hst : (st.map fun v => v.category).sum ≤ 8) (hg : JC M' d' mPl (.ref 86 :: as) m r)
    (kk : LW p l e s mm below meth cc D cA ad (pc + 3) (r.1.toList ++ st) x c r.2) : LW p l e s mm below meth cc D cA ad pc (as.reverse ++ .ref 86 :: st) x c m :=
  fun H locs ls h1 h2 hS hl => L_core cx nd_m (ci := 9) (by decide +kernel) ⟨TX9, 26, by rw [hC]; rfl⟩ hd hlk hms hw hdd hn hst (va_D_perm List.perm_append_comm (cx.2.2.2.2.2.2.1 c m)) h2 h1 hS hl.1 hg (fun H1 locs1 g1 g2 g3 => kk H1 locs1 ls g2 g1 g3 hl)
theorem L_a1 (cx : LX p s mm meth cc L xs D cA ad) (hd : decode code pc = .ok (.aload_n 1, 1)) (kk : LW p l e s mm below meth cc D cA ad (pc + 1) (.ref 0 :: st) x c m) : LW p l e s mm below meth cc D cA ad pc st x c m :=
  fun H locs ls h1 h2 hS hl => lv_aload_n cx.1.1 cx.1.2.1 hd rfl (lv_at hl 1 rfl) (kk H locs ls h1 h2 hS hl)
theorem L_a2 (cx : LX p s mm meth cc L xs D cA ad) (hd : decode code pc = .ok (.aload_n 2, 1)) (kk : LW p l e s mm below meth cc D cA ad (pc + 1) (.ref 86 :: st) x c m) : LW p l e s mm below meth cc D cA ad pc st x c m :=
  fun H locs ls h1 h2 hS hl => lv_aload_n cx.1.1 cx.1.2.1 hd rfl (lv_at hl 2 rfl) (kk H locs ls h1 h2 hS hl)
theorem L_arg {i : Nat} {z : Int} (k : Nat) (cx : LX p s mm meth cc L xs D cA ad) (hd0 : decode code pc = .ok (.aload_n 0, 1)) (hd1 : decode code (pc + 1) = .ok (.iload_n 3, 1)) (hd2 : decode code (pc + 2) = .ok (.iconst z, 1)) (hd3 : decode code (pc + 3) = .ok (.iadd, 1)) (hd4 : decode code (pc + 4) = .ok (.iaload, 1)) (hz : Int32.ofInt z = nI k) (hi : i + k < L) (hL : L ≤ 3072) (kk : LW p l e s mm below meth cc D cA ad (pc + 5) (.int (xs (i + k)) :: st) (nI i) c m) : LW p l e s mm below meth cc D cA ad pc st (nI i) c m :=
  fun H locs ls h1 h2 hS hl => by
    have kk' := kk H locs ls h1 h2 hS hl
    refine lv_aload_n cx.1.1 cx.1.2.1 hd0 rfl (lv_at hl 0 rfl) ?_
    refine lv_iload_n cx.1.1 cx.1.2.1 hd1 rfl (lv_at hl 3 rfl) ?_
    refine lv_iconst cx.1.1 cx.1.2.1 hd2 hz ?_
    refine lv_iadd cx.1.1 cx.1.2.1 hd3 ?_
    rw [nI_add]
    refine va_sld cx.1.1 cx.1.2.1 cx.2.2.2.2.2.1.1 cx.2.2.2.2.2.1.2 (Nat.not_le.mpr cx.2.2.2.2.2.1.2) hS (vp_in_nI hi (by omega)) hd4 ?_
    rw [nI_clamp (by omega)]
    exact kk'
theorem L_eq {v : Int32} {off : Int} {tgt : Nat} (cx : LX p s mm meth cc L xs D cA ad) (hd : decode code pc = .ok (.if_icmp .eq off, 3)) (ht : (pc : Int) + off = (tgt : Int)) (kk : LW p l e s mm below meth cc D cA ad tgt st x c m) : LW p l e s mm below meth cc D cA ad pc (.int v :: .int v :: st) x c m :=
  fun H locs ls h1 h2 hS hl => lv_icmp_eq cx.1.1 cx.1.2.1 hd ht (fun _ => kk H locs ls h1 h2 hS hl) (fun q => absurd rfl q)
theorem L_i2l {v : Int32} (cx : LX p s mm meth cc L xs D cA ad) (hd : decode code pc = .ok (.i2l, 1)) (kk : LW p l e s mm below meth cc D cA ad (pc + 1) (.long v.toInt64 :: st) x c m) : LW p l e s mm below meth cc D cA ad pc (.int v :: st) x c m :=
  fun H locs ls h1 h2 hS hl => lv_i2l cx.1.1 cx.1.2.1 hd rfl (kk H locs ls h1 h2 hS hl)
theorem L_bipush {z : Int} {v : Int32} (cx : LX p s mm meth cc L xs D cA ad) (hd : decode code pc = .ok (.bipush z, 2)) (hv : (Int8.ofInt z).toInt32 = v) (kk : LW p l e s mm below meth cc D cA ad (pc + 2) (.int v :: st) x c m) : LW p l e s mm below meth cc D cA ad pc st x c m :=
  fun H locs ls h1 h2 hS hl => lv_bipush cx.1.1 cx.1.2.1 hd hv (kk H locs ls h1 h2 hS hl)
theorem L_lshl {v : Int64} {y : Int32} (cx : LX p s mm meth cc L xs D cA ad) (hd : decode code pc = .ok (.lshl, 1)) (kk : LW p l e s mm below meth cc D cA ad (pc + 1) (.long (v <<< (y.toInt64 &&& 63)) :: st) x c m) : LW p l e s mm below meth cc D cA ad pc (.int y :: .long v :: st) x c m :=
  fun H locs ls h1 h2 hS hl => lv_lshl cx.1.1 cx.1.2.1 hd rfl (kk H locs ls h1 h2 hS hl)
theorem L_ldc2 {i : Nat} {v : Int64} (cx : LX p s mm meth cc L xs D cA ad) (hd : decode code pc = .ok (.ldc2_w i, 3)) (hw : jWd (.constantLong "MoonRoomsLaw" i v)) (kk : LW p l e s mm below meth cc D cA ad (pc + 3) (.long v :: st) x c m) : LW p l e s mm below meth cc D cA ad pc st x c m :=
  fun H locs ls h1 h2 hS hl => lv_ldc2 cx.1.1 cx.1.2.1 cx.1.2.2.2 (cx.2.2.1.args hw _) hd (kk H locs ls h1 h2 hS hl)
theorem L_land {v w : Int64} (cx : LX p s mm meth cc L xs D cA ad) (hd : decode code pc = .ok (.land, 1)) (kk : LW p l e s mm below meth cc D cA ad (pc + 1) (.long (v &&& w) :: st) x c m) : LW p l e s mm below meth cc D cA ad pc (.long w :: .long v :: st) x c m :=
  fun H locs ls h1 h2 hS hl => lv_land cx.1.1 cx.1.2.1 hd (kk H locs ls h1 h2 hS hl)
theorem L_lor {v w : Int64} (cx : LX p s mm meth cc L xs D cA ad) (hd : decode code pc = .ok (.lor, 1)) (kk : LW p l e s mm below meth cc D cA ad (pc + 1) (.long (v ||| w) :: st) x c m) : LW p l e s mm below meth cc D cA ad pc (.long w :: .long v :: st) x c m :=
  fun H locs ls h1 h2 hS hl => lv_lor cx.1.1 cx.1.2.1 hd (kk H locs ls h1 h2 hS hl)
end LAW

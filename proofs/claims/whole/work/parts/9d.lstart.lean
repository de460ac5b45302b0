/-! FROM THE LAW'S ENTRY: both objects made, then the loop -/
theorem cL_7 : jWd (.classLink "MoonRoomsLaw" 7 RX8) := jWd_t1 (i := 18) rfl rfl
theorem cL_10 : jWd (.classLink "MoonRoomsLaw" 10 RX9) := jWd_t3 (i := 238) rfl rfl
theorem iL_9 : jWd (.methodLink "MoonRoomsLaw" 9 m8_init.1) := jWd_t1 (i := 20) rfl rfl
theorem iL_12 : jWd (.methodLink "MoonRoomsLaw" 12 m9_init.1) := jWd_t4 (i := 0) rfl rfl
section WS
variable {p : Program} {l : Launch} {e : Env} {s : State} {mm : MethodId} {args : Array Value} {below : List Frame} {meth : Method} {cc : Code} {D : va_G} {cA : Nat → ClassId} {ad : Nat → Nat}
theorem L_init {M' : JM} {d' KC' KS' ci idx q k n pc : Nat} {fs st : List Value} {Z' : Nat → va_W → Prop} {w0 : va_W} {H : Heap} {locs : List Loc} {ls : Array Slot} {Q : State → Prop} (hx : p.tables.exec = Jvm.exec) (hb : cc.code = code) (hml : cc.maxLocals = 4) (hown : s.vm.findClass "MoonRoomsLaw" = some mm.cls) (hE : nE ad (fun z => s.heap.size ≤ z) s) (hK : va_K D vwCl (jty cA) s)
    (hd : decode code pc = .ok (.invokespecial idx, 3)) (hlk : jWd (.methodLink "MoonRoomsLaw" idx M'.1)) (hms : jMs M' 0) (hret : M'.2.2.2.1 = none) (hnm : M'.1.name = "<init>") (hi : jWd (.instanceMethod M'.1)) (hdd : d' + 1 ≤ 2048) (hst : (st.map fun v => v.category).sum ≤ 8) (hC : NC ad cA M' d' KC' KS' ci fs [] Z') (hk : k + KC' ≤ 600000) (hn : n + KS' ≤ 7302250) (hsz : ls.size = 4)
    (hP : va_P D vwCl (w0 ++ [(q, .inr (ci, fs))]) H) (hD : va_D (fun z => s.heap.size ≤ z) (w0 ++ [(q, .inr (ci, fs))])) (hS : va_S (fun z => s.heap.size ≤ z) s.heap H locs)
    (kk : ∀ (H1 : Heap) (locs1 : List Loc) (w1 : va_W), Z' q w1 → va_P D vwCl (w0 ++ w1) H1 → va_D (fun z => s.heap.size ≤ z) (w0 ++ w1) → va_S (fun z => s.heap.size ≤ z) s.heap H1 locs1 → W p l e room_1 s mm args below meth cc H1 locs1 (k + KC') (n + KS') Q (F0 mm (pc + 3) ls st)) : W p l e room_1 s mm args below meth cc H locs k n Q (F0 mm pc ls (.ref q :: st)) := by
  have jt := hE.1
  obtain ⟨h1, h2, ⟨-, h3, h4, h5⟩, h6, -⟩ := hms
  rw [hret] at h1
  have hCC := hC l D (va_A [(q, .inr (ci, fs))] H.size) q
  rw [hret] at hCC
  have hq : (w0 ++ [(q, (.inr (ci, fs) : va_E))])[w0.length]? = some (q, .inr (ci, fs)) := by rw [List.getElem?_append_right (Nat.le_refl _)]; simp
  have hF : ∀ z, va_A [(q, .inr (ci, fs))] H.size z → s.heap.size ≤ z := by
    rintro z (⟨j, y, hj⟩ | hz)
    · have : (w0 ++ [(q, (.inr (ci, fs) : va_E))])[w0.length + j]? = some (z, y) := by rw [List.getElem?_append_right (by omega)]; rw [show w0.length + j - w0.length = j by omega]; exact hj
      exact hD.2 _ _ this
    · exact Nat.le_trans hS.1 hz
  have hpre : PreS s H (nP ad cA D (va_A [(q, .inr (ci, fs))] H.size) [.ref q] [(q, .inr (ci, fs))]) [.ref q] := by
    refine ⟨fun a U g mk h => ?_, fun U hU hW => ?_⟩
    · obtain ⟨g1, g2, g3, g4, g5, g6⟩ := h
      exact ⟨g1, g2, g3, g4, va_K.moved (u := U) (U := U.calling g mk a) (Vm.Alike.refl U.vm) g5, nE.eq (s := U) (U := U.calling g mk a) g6 rfl rfl (State.WarmedH.refl U)⟩
    · refine ⟨rfl, fun z h => Or.inr (by rw [hU] at h; exact h), ?_, ⟨fun i j x y hi hj _ => ?_, fun j y hj => Or.inl ⟨j, y.2, hj⟩⟩, va_K.moved hW.alike hK, (hE.next hS hU hW).narrow hF⟩
      · rw [hU]
        intro j y hj
        match j, hj with
        | 0, hj => cases hj; exact hP _ _ hq
        | j + 1, hj => simp at hj
      · match i, j, hi, hj with
        | 0, 0, _, _ => rfl
        | i + 1, _, hi, _ => simp at hi
        | 0, j + 1, _, hj => simp at hj
  exact N_run (va_runI (As := []) (rest := st) (nL := 4) (own := "MoonRoomsLaw") (Ts := []) ⟨hx, hb, hml, hown, fun w h => absurd h List.not_mem_nil⟩ hCC ⟨⟨rfl, rfl, hdd, by show 8 + (M'.2.2.1 + 11) + 40 * d' ≤ 84000; omega, fun w hw a' U hW => by rw [List.mem_singleton.mp hw]; exact (jt.warm hW).args h1 a', List.mem_cons_self, jt.args h1 _, jt.args h2 _, ⟨h3, h4⟩, fun sig h => by rw [h] at h5; exact (Option.some.inj h5).symm, jt.args hlk _⟩, hnm, jt.args hi _⟩ hpre rfl rfl hsz rfl (lv_room hst) hd ⟨hk, hn⟩) hP hD hS (fun _ h => h) kk
end WS
/-- FROM THE LAW'S ENTRY, for every script of at most 3072 ints -/
theorem whole_start {p : Program} {e : Env} {s : State} {m : MethodId} {below : List Frame} {meth : Method} {c : Code} (l : Launch) (hflags : l.flags = flags0) {b L : Nat} {xs : Nat → Int32} (hL : L ≤ 3072) (C0 : lw_At p s m meth c b L xs) : W p l e room_1 s m #[Value.ref b] below meth c s.heap [] 0 0 (lw_Z below #[Value.ref b] s) (entryFrame m ([Value.ref b] : List Value).toArray 4) := by
  obtain ⟨hx, hb, hr, hml, hown, hts, hX, hbl, hlocks, hgv⟩ := C0
  have hown : s.vm.findClass "MoonRoomsLaw" = some m.cls := hown
  obtain ⟨ad, rfl, hE⟩ := nE_of b hts hgv
  have jt := hE.1
  obtain ⟨D, cA, hK⟩ := K_all hts hE.2.1
  have hA : ∀ q : Nat, s.heap.size ≤ q → (fun q : Nat => s.heap.size ≤ q) q := fun _ h => h
  have hS : va_S (fun q : Nat => s.heap.size ≤ q) s.heap s.heap [] := va_S.rf
  have hP : va_P D vwCl [] s.heap := fun k q h => by simp at h
  have hD : va_D (fun q : Nat => s.heap.size ≤ q) [] := ⟨fun i j p q h => by simp at h, fun k q h => by simp at h⟩
  have hl := lv_entry ([.ref (ad 300)]) (n := 4) (Nat.le_of_ble_eq_true rfl)
  rw [lg_entry_eq]
  generalize (lg_sl ([.ref (ad 300)]) ++ List.replicate (4 - (lg_sl ([.ref (ad 300)])).length) Slot.unset).toArray = ls at hl ⊢
  have hl : lv_has ls 4 [(0, .ref (ad 300))] := hl
  refine va_new (ci := 8) (fs := [.null, .null, .null, .null, .null, .null, .null, .null, .int 0]) (C := RX8) (T := TX8) (N := 9) hx hb (fun w h => jt.args (jcl_X8.2.1 w h) _) (fun w h => h) tyX8 jcl_X8.2.2.1 hown (jt.args cL_7 _) (jt.args ni_X8 _) (jt.args nn_X8 _) hK hP hD hS hA rfl (fun j hj => by rcases (show j = 0 ∨ j = 1 ∨ j = 2 ∨ j = 3 ∨ j = 4 ∨ j = 5 ∨ j = 6 ∨ j = 7 ∨ j = 8 by omega) with rfl | rfl | rfl | rfl | rfl | rfl | rfl | rfl | rfl <;> rfl) (Nat.le_of_ble_eq_true rfl) (Nat.le_of_ble_eq_true rfl) dL_law_0 (fun q0 H hP hD hS => ?_)
  refine lv_dup hx hb dL_law_3 rfl ?_
  refine L_init (w0 := []) hx hb hml hown hE hK dL_law_4 iL_9 sm8_init rfl rfl im8_init (Nat.le_of_ble_eq_true rfl) (Nat.le_of_ble_eq_true rfl) nc_8 (Nat.le_of_ble_eq_true rfl) (Nat.le_of_ble_eq_true rfl) hl.1 hP hD hS (fun H locs w1 hw hP hD hS => ?_)
  obtain ⟨ad1, rfl, rfl⟩ := hw
  refine lv_astore_n (lv' := [(1, .ref (ad1 0)), (0, .ref (ad 300))]) hx hb dL_law_7 rfl hl (by decide) rfl (fun ls hl => ?_)
  refine va_new (ci := 9) (fs := [.null, .null, .null, .int 0, .null, .null, .int 0, .int 0, .int 0, .int 0, .null, .int 0, .null, .null, .null, .null, .int 0, .null, .int 0, .int 0, .int 0, .int 0, .null, .null, .null, .null]) (C := RX9) (T := TX9) (N := 26) hx hb (fun w h => jt.args (jcl_X9.2.1 w h) _) (fun w h => h) tyX9 jcl_X9.2.2.1 hown (jt.args cL_10 _) (jt.args ni_X9 _) (jt.args nn_X9 _) hK hP hD hS hA rfl (fun j hj => by rcases (show j = 0 ∨ j = 1 ∨ j = 2 ∨ j = 3 ∨ j = 4 ∨ j = 5 ∨ j = 6 ∨ j = 7 ∨ j = 8 ∨ j = 9 ∨ j = 10 ∨ j = 11 ∨ j = 12 ∨ j = 13 ∨ j = 14 ∨ j = 15 ∨ j = 16 ∨ j = 17 ∨ j = 18 ∨ j = 19 ∨ j = 20 ∨ j = 21 ∨ j = 22 ∨ j = 23 ∨ j = 24 ∨ j = 25 by omega) with rfl | rfl | rfl | rfl | rfl | rfl | rfl | rfl | rfl | rfl | rfl | rfl | rfl | rfl | rfl | rfl | rfl | rfl | rfl | rfl | rfl | rfl | rfl | rfl | rfl | rfl <;> rfl) (Nat.le_of_ble_eq_true rfl) (Nat.le_of_ble_eq_true rfl) dL_law_8 (fun q1 H hP hD hS => ?_)
  refine lv_dup hx hb dL_law_11 rfl ?_
  refine L_init (w0 := jW ad1 cA μC cPl) hx hb hml hown hE hK dL_law_12 iL_12 sm9_init rfl rfl im9_init (Nat.le_of_ble_eq_true rfl) (Nat.le_of_ble_eq_true rfl) nc_9 (Nat.le_of_ble_eq_true rfl) (Nat.le_of_ble_eq_true rfl) hl.1 hP hD hS (fun H locs w1 hw hP hD hS => ?_)
  obtain ⟨ad2, rfl, e202, e203, rfl⟩ := hw
  refine lv_astore_n (lv' := [(2, .ref (ad2 86)), (1, .ref (ad1 0)), (0, .ref (ad 300))]) hx hb dL_law_15 rfl hl (by decide) rfl (fun ls hl => ?_)
  refine lv_iconst (v := nI 0) hx hb dL_law_16 (by decide) ?_
  refine lv_istore_n (lv' := [(3, .int (nI 0)), (2, .ref (ad2 86)), (1, .ref (ad1 0)), (0, .ref (ad 300))]) hx hb dL_law_17 rfl hl (by decide) rfl (fun ls hl => ?_)
  obtain ⟨aF, haF⟩ : ∃ aF : Nat → Nat, aF = fun p => if p < 86 then ad1 p else if p < 102 then ad2 p else ad p := ⟨_, rfl⟩
  have f1 : ∀ q, q < 86 → aF q = ad1 q := fun q h => by rw [haF]; exact if_pos h
  have f2 : ∀ q, 86 ≤ q → q < 102 → aF q = ad2 q := fun q h h2 => by rw [haF]; dsimp only; rw [if_neg (by omega), if_pos h2]
  have f3 : ∀ q, 102 ≤ q → aF q = ad q := fun q h => by rw [haF]; dsimp only; rw [if_neg (by omega), if_neg (by omega)]
  have eC : ∀ μ, jW ad1 cA μ cPl = jW aF cA μ cPl := fun μ => jW_cg (fun p hp => (f1 p (cPl_lt p hp)).symm) (fun p hp q hq => (f1 q (refs_c p hp q hq)).symm)
  have eM : ∀ μ, jW ad2 cA μ mPl = jW aF cA μ mPl := fun μ => jW_cg (fun p hp => (f2 p (mPl_in p hp).1 (mPl_in p hp).2).symm) (fun p hp q hq => by
    rcases refs_m p hp q hq with h | h | h
    · exact (f2 q h.1 h.2).symm
    · rw [h, f3 202 (by omega), e202]
    · rw [h, f3 203 (by omega), e203])
  rw [eC, eM] at hP hD
  have hP1 : va_P D vwCl (jW aF cA μC cPl) H := fun k q hk => hP k q ((List.getElem?_append_left (List.getElem?_eq_some_iff.mp hk).1).trans hk)
  have hP2 : va_P D vwCl (jW aF cA μM mPl) H := fun k q hk => hP ((jW aF cA μC cPl).length + k) q (by rw [List.getElem?_append_right (by omega), show (jW aF cA μC cPl).length + k - (jW aF cA μC cPl).length = k by omega]; exact hk)
  have jst : jSt aF (fun q => s.heap.size ≤ q) s := by
    have h := hE.2.2.1
    unfold jSt at h ⊢
    rw [f3 200 (by omega), f3 201 (by omega), f3 206 (by omega), show (fun i => aF (202 + i)) = fun i => ad (202 + i) from funext fun i => f3 _ (by omega), show (fun i => aF (204 + i)) = fun i => ad (204 + i) from funext fun i => f3 _ (by omega)]
    exact h
  have cx : LX p s m meth c L xs D cA aF := ⟨⟨hx, hb, hml, hown⟩, hlocks, jt, hK, jst, ⟨by rw [f3 300 (by omega)]; exact hX, by rw [f3 300 (by omega)]; exact hbl⟩, fun c' m' => va_D_fst hD (by rw [List.map_append, List.map_append, jW_fst, jW_fst, jW_fst, jW_fst]), hr⟩
  have fin := law_loop (l := l) (e := e) (below := below) cx hL (L + 7) 0 μC μM R_0 (by omega) (by omega) H locs ls hP1 hP2 hS (by
    rw [f3 300 (by omega), f1 0 (by omega), f2 86 (by omega) (by omega)]
    exact lv_sub hl [3, 2, 1, 0] rfl)
  rw [f3 300 (by omega)] at fin
  exact fin

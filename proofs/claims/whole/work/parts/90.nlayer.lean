/-! THE N LAYER: constructors. ws: the cells made so far, the object itself ahead; new ones come to the end. -/
def nR (d KC KS : Nat) : Room := { frames := d, cells := KC, slots := KS, locals := 40 * d }
def nQ (D : va_G) (Z : va_W → Prop) (A : Nat → Prop) : Array Value → State → Outcome → State → Prop := fun _ st oc t => (oc = .returned none ∧ ∃ w, Z w ∧ va_P D vwCl w t.heap ∧ va_D A w) ∧ va_F A st t
/-- what stays: the texts' own words, the array classes' words, the statics -/
def nE (ad : Nat → Nat) (A : Nat → Prop) (s : State) : Prop := jTW s ∧ (va_AO "MoonRooms$Tenant" s ∧ va_AO "MoonRooms$Sheet" s ∧ va_AO "java/lang/String" s) ∧ jSt ad A s ∧ vk_R "MoonRoomsModel" 24 "npw" (ad 202) s ∧ vk_R "MoonRoomsModel" 26 "rcq" (ad 203) s
theorem nE.next {ad : Nat → Nat} {A : Nat → Prop} {s U : State} {H : Heap} {locs : List Loc} (h : nE ad A s) (hS : va_S A s.heap H locs) (hU : U.heap = H) (hW : s.WarmedH U.vm) : nE ad A U := by
  obtain ⟨h1, ⟨h2, h3, h4⟩, h5, h6, h7⟩ := h
  exact ⟨h1.warm hW, ⟨h2.moved hW.alike, h3.moved hW.alike, h4.moved hW.alike⟩, h5.next hS hU hW, h6.warm hW, h7.warm hW⟩
theorem nE.eq {ad : Nat → Nat} {A : Nat → Prop} {s U : State} (h : nE ad A s) (hU : U.heap = s.heap) (hv : U.vm = s.vm) (hW : s.WarmedH U.vm) : nE ad A U := by
  obtain ⟨h1, ⟨h2, h3, h4⟩, h5, h6, h7⟩ := h
  exact ⟨h1.warm hW, ⟨h2.moved hW.alike, h3.moved hW.alike, h4.moved hW.alike⟩, h5.eq hU hW.alike, h6.same hv, h7.same hv⟩
theorem nE.narrow {ad : Nat → Nat} {A B : Nat → Prop} {s : State} (h : nE ad A s) (hAB : ∀ q, B q → A q) : nE ad B s := ⟨h.1, h.2.1, h.2.2.1.narrow hAB, h.2.2.2⟩
def NCx (M : JM) (p : Program) (s : State) (m : MethodId) (meth : Method) (c : Code) (A : Nat → Prop) (D : va_G) (cA : Nat → ClassId) (ad : Nat → Nat) : Prop :=
  (p.tables.exec = Jvm.exec ∧ c.code = M.2.1 ∧ c.maxLocals = M.2.2.1 ∧ s.vm.findClass M.2.2.2.2 = some m.cls) ∧ (meth.sig.returnType = none ∧ meth.locks = false ∧ meth.name = "<init>") ∧ nE ad A s ∧ va_K D vwCl (jty cA) s ∧ (∀ q : Nat, s.heap.size ≤ q → A q)
def NF (ad : Nat → Nat) (cA : Nat → ClassId) (M : JM) (d KC KS : Nat) (Z : va_W → Prop) (pc : Nat) (L : List (Option Value)) (st : List Value) (ws : va_W) (k n : Nat) : Prop :=
  ∀ (p : Program) (l : Launch) (e : Env) (s : State) (m : MethodId) (args : Array Value) (below : List Frame) (meth : Method) (c : Code) (A : Nat → Prop) (D : va_G), NCx M p s m meth c A D cA ad →
  ∀ (H : Heap) (locs : List Loc) (ls : Array Slot), va_P D vwCl ws H → va_D A ws → va_S A s.heap H locs → jHas id ls M.2.2.1 L →
  W p l e (nR d KC KS) s m args below meth c H locs k n (MQ below (nQ D Z A) args s KC KS A) (F0 m pc ls st)
def nP (ad : Nat → Nat) (cA : Nat → ClassId) (D : va_G) (A : Nat → Prop) (as : List Value) (w : va_W) : Array Value → State → Prop := fun v U => v = as.toArray ∧ (∀ q : Nat, U.heap.size ≤ q → A q) ∧ va_P D vwCl w U.heap ∧ va_D A w ∧ va_K D vwCl (jty cA) U ∧ nE ad A U
def NC (ad : Nat → Nat) (cA : Nat → ClassId) (M : JM) (d KC KS ci : Nat) (fs as : List Value) (Z : Nat → va_W → Prop) : Prop :=
  ∀ (l : Launch) (D : va_G) (A : Nat → Prop) (h0 : Nat), Met l M.1 [Cond.code M.1 M.2.1 M.2.2.1 M.2.2.2.1] (nR d KC KS) (nP ad cA D A (.ref h0 :: as) [(h0, .inr (ci, fs))]) (nQ D (Z h0) A) KC KS A
def nInts (as : List Value) : Prop := ∀ v ∈ as, ∃ x, v = .int x
theorem nInts_id {as : List Value} (h : nInts as) : as.map (jv id) = as := by
  induction as with
  | nil => rfl
  | cons a as ih =>
    obtain ⟨x, rfl⟩ := h a List.mem_cons_self
    show Value.int x :: as.map (jv id) = _
    rw [ih (fun v hv => h v (List.mem_cons_of_mem _ hv))]
theorem NC_of {ad : Nat → Nat} {cA : Nat → ClassId} {M : JM} {d KC KS ci n : Nat} {fs as : List Value} {Z : Nat → va_W → Prop} {L0 : Nat → List (Option Value)} (hms : jMs M n) (hret : M.2.2.2.1 = none) (hnm : M.1.name = "<init>") (has : nInts as) (hlen : ∀ h0, (jE (.ref h0 :: as)).length ≤ M.2.2.1) (hL : ∀ h0, L0 h0 = jE (.ref h0 :: as) ++ List.replicate (M.2.2.1 - (jE (.ref h0 :: as)).length) none)
    (h : ∀ h0, NF ad cA M d KC KS (Z h0) 0 (L0 h0) [] [(h0, .inr (ci, fs))] 0 0) : NC ad cA M d KC KS ci fs as Z := by
  intro l D A h0
  obtain ⟨-, -, ⟨hpl, -⟩, -, hown1⟩ := hms
  refine Met.ofW (cc := M.2.1) (maxL := M.2.2.1) (ret := M.2.2.2.1) hpl rfl ?_
  intro p e s m args below meth c s₁ B hml hv
  obtain ⟨rfl, hA, hP, hD, hK, hE⟩ := hv
  have hown : s.vm.findClass M.1.cls = some m.cls := findClass_of_methodNamed B.named
  have hin : meth.name = "<init>" := ((name_of_methodNamed B.named B.method).1).trans hnm
  have eas : (Value.ref h0 :: as).map (jv id) = .ref h0 :: as := by show Value.ref h0 :: as.map (jv id) = _; rw [nInts_id has]
  have hl := lv_entry ((Value.ref h0 :: as).map (jv id)) (n := M.2.2.1) (by rw [jE_len]; exact hlen h0)
  rw [lg_entry_eq]
  rw [eas] at hl
  generalize ((lg_sl (Value.ref h0 :: as) ++ List.replicate (M.2.2.1 - (lg_sl (Value.ref h0 :: as)).length) Slot.unset).toArray) = ls at hl ⊢
  exact h h0 p l e s m _ below meth c A D ⟨⟨B.exec, B.bytes, hml, by rw [hown1]; exact hown⟩, ⟨B.returns.trans hret, B.notSynchronized, hin⟩, hE, hK, hA⟩ s.heap [] ls hP hD va_S.rf ⟨hl.1, hl.2.1, fun i v hi => by
    have := jE_has (ad := id) (as := Value.ref h0 :: as) (k := M.2.2.1 - (jE (.ref h0 :: as)).length) (i := i) (v := v) (by rw [← hL]; exact hi)
    rw [eas] at this
    exact hl.2.2 (i, jv id v) this⟩
/-- a callee has made cells of its new object -/
theorem N_run {p : Program} {l : Launch} {e : Env} {R : Room} {s : State} {m : MethodId} {args : Array Value} {below : List Frame} {meth : Method} {c : Code} {A : Nat → Prop} {D : va_G} {H : Heap} {locs : List Loc} {ls : Array Slot} {st0 rest : List Value} {Z : va_W → Prop} {a : Array Value} {Q : State → Prop} {w0 : va_W} {q pc k n KC KS : Nat} {x : va_E}
    (hr : va_Run p l e R s m args below meth c H locs k n KC KS (F0 m pc ls st0) rest (nQ D Z (va_A [(q, x)] H.size) a) (va_A [(q, x)] H.size)) (hP : va_P D vwCl (w0 ++ [(q, x)]) H) (hD : va_D A (w0 ++ [(q, x)])) (hS : va_S A s.heap H locs) (hA : ∀ z : Nat, s.heap.size ≤ z → A z)
    (kk : ∀ (H1 : Heap) (locs1 : List Loc) (w1 : va_W), Z w1 → va_P D vwCl (w0 ++ w1) H1 → va_D A (w0 ++ w1) → va_S A s.heap H1 locs1 → W p l e R s m args below meth c H1 locs1 (k + KC) (n + KS) Q (F0 m (pc + 3) ls rest)) : W p l e R s m args below meth c H locs k n Q (F0 m pc ls st0) := by
  have hF : ∀ z, va_A [(q, x)] H.size z → A z := by
    rintro z (⟨j, y, hj⟩ | hz)
    · have : (w0 ++ [(q, x)])[w0.length + j]? = some (z, y) := by rw [List.getElem?_append_right (by omega)]; rw [show w0.length + j - w0.length = j by omega]; exact hj
      exact hD.2 _ _ this
    · exact hA z (Nat.le_trans hS.1 hz)
  intro T hT X
  obtain ⟨v, st₀, t, T', L, h0, X', hL, e1, e2, ⟨⟨hv, w1, hz1, hp1, hd1⟩, hz, hk⟩, st⟩ := hr T hT X
  cases hv
  rw [h0] at hz hk
  have apart : ∀ (j : Nat) (y : Nat × va_E), w0[j]? = some y → y.1 < H.size ∧ ¬ va_A [(q, x)] H.size y.1 := by
    intro j y hj
    have hl := List.getElem?_append_left (l₂ := [(q, x)]) (List.getElem?_eq_some_iff.mp hj).1
    have hy : (w0 ++ [(q, x)])[j]? = some y := hl.trans hj
    have lt := (hP j y hy).lt
    refine ⟨lt, ?_⟩
    rintro (⟨i, z, hi⟩ | h)
    · match i, hi with
      | 0, hi =>
        have hi' : (q, x) = (y.1, z) := Option.some.inj hi
        have hq : (w0 ++ [(q, x)])[w0.length]? = some (q, x) := by rw [List.getElem?_append_right (Nat.le_refl _)]; simp
        have := hD.1 j w0.length y (q, x) hy hq (congrArg Prod.fst hi').symm
        have := (List.getElem?_eq_some_iff.mp hj).1
        omega
      | i + 1, hi => simp at hi
    · omega
  obtain ⟨t2, a1, b1⟩ := kk T'.heap (locs ++ L) w1 hz1
    (by
      rw [e1]
      refine va_P.app (fun j y hj => ?_) hp1
      obtain ⟨g1, g2⟩ := apart j y hj
      have hy : (w0 ++ [(q, x)])[j]? = some y := (List.getElem?_append_left (List.getElem?_eq_some_iff.mp hj).1).trans hj
      exact (hP j y hy).kept (hk y.1 g1 g2))
    (by
      refine va_D.app ⟨fun i j y z hi hj hyz => ?_, fun j y hj => ?_⟩ ⟨hd1.1, fun j y hj => hF _ (hd1.2 j y hj)⟩ (fun i j y z hy hz hyz => ?_)
      · exact hD.1 i j y z ((List.getElem?_append_left (List.getElem?_eq_some_iff.mp hi).1).trans hi) ((List.getElem?_append_left (List.getElem?_eq_some_iff.mp hj).1).trans hj) hyz
      · exact hD.2 j y ((List.getElem?_append_left (List.getElem?_eq_some_iff.mp hj).1).trans hj)
      · exact (apart i y hy).2 (by rw [hyz]; exact hd1.2 j z hz))
    ⟨Nat.le_trans hS.1 (by rw [e1]; exact hz), fun z h1 h2 => by rw [e1, hk z (Nat.lt_of_lt_of_le h1 hS.1) (fun g => h2 (hF z g))]; exact hS.2.1 z h1 h2, fun z hz => by
      rcases List.mem_append.mp hz with h | h
      · exact hS.2.2 z h
      · exact hF _ (hL z h)⟩ T' rfl X'
  exact ⟨t2, st t2 a1, b1⟩
section NR
variable {ad : Nat → Nat} {cA : Nat → ClassId} {M : JM} {d KC KS : Nat} {Z : va_W → Prop} {pc : Nat} {L : List (Option Value)} {st : List Value} {ws : va_W} {k n : Nat}
theorem N_ws {ws' : va_W} (h : ws = ws') (kk : NF ad cA M d KC KS Z pc L st ws' k n) : NF ad cA M d KC KS Z pc L st ws k n := h ▸ kk
theorem N_L {L' : List (Option Value)} (h : L = L') (kk : NF ad cA M d KC KS Z pc L' st ws k n) : NF ad cA M d KC KS Z pc L st ws k n := h ▸ kk
theorem N_aload_n {i : Fin 4} {x : Nat} (hd : decode M.2.1 pc = .ok (.aload_n i, 1)) (hL : L[(i : Nat)]? = some (some (.ref x))) (kk : NF ad cA M d KC KS Z (pc + 1) L (.ref x :: st) ws k n) : NF ad cA M d KC KS Z pc L st ws k n :=
  fun p l e s m args below meth c A D cx H locs ls hP hD hS hl => lv_aload_n cx.1.1 cx.1.2.1 hd rfl (hl.2.2 i _ hL) (kk p l e s m args below meth c A D cx H locs ls hP hD hS hl)
theorem N_iload_n {i : Fin 4} {x : Int32} (hd : decode M.2.1 pc = .ok (.iload_n i, 1)) (hL : L[(i : Nat)]? = some (some (.int x))) (kk : NF ad cA M d KC KS Z (pc + 1) L (.int x :: st) ws k n) : NF ad cA M d KC KS Z pc L st ws k n :=
  fun p l e s m args below meth c A D cx H locs ls hP hD hS hl => lv_iload_n cx.1.1 cx.1.2.1 hd rfl (hl.2.2 i _ hL) (kk p l e s m args below meth c A D cx H locs ls hP hD hS hl)
theorem N_istore_n {i : Fin 4} {x : Int32} (hd : decode M.2.1 pc = .ok (.istore_n i, 1)) (hn : (i : Nat) < M.2.2.1) (hk : jok L i = true) (kk : NF ad cA M d KC KS Z (pc + 1) (L.set i (some (.int x))) st ws k n) : NF ad cA M d KC KS Z pc L (.int x :: st) ws k n :=
  fun p l e s m args below meth c A D cx H locs ls hP hD hS hl => lv_istore_n cx.1.1 cx.1.2.1 hd rfl hl.lv hn rfl (fun ls' h' => kk p l e s m args below meth c A D cx H locs ls' hP hD hS (hl.store (v := .int x) hk h'))
theorem N_iinc {i : Nat} {z : Int} {x c0 : Int32} (hd : decode M.2.1 pc = .ok (.iinc i z, 3)) (hL : L[i]? = some (some (.int x))) (hv : Int32.ofInt z = c0) (hn : i < M.2.2.1) (hk : jok L i = true) (kk : NF ad cA M d KC KS Z (pc + 3) (L.set i (some (.int (x + c0)))) st ws k n) : NF ad cA M d KC KS Z pc L st ws k n :=
  fun p l e s m args below meth c A D cx H locs ls hP hD hS hl => by
    obtain ⟨j, hj⟩ := List.getElem?_of_mem (jLa_mem.mpr ⟨_, hL, rfl⟩ : (i, jv id (.int x)) ∈ jLa id L)
    exact lv_iinc (v := x + c0) cx.1.1 cx.1.2.1 hd hl.lv hj (by rw [hv]) hn rfl (fun ls' h' => kk p l e s m args below meth c A D cx H locs ls' hP hD hS (hl.store (v := .int (x + c0)) hk h'))
theorem N_goto {off : Int} {tgt : Nat} (hd : decode M.2.1 pc = .ok (.goto off, 3)) (ht : (pc : Int) + off = (tgt : Int)) (kk : NF ad cA M d KC KS Z tgt L st ws k n) : NF ad cA M d KC KS Z pc L st ws k n :=
  fun p l e s m args below meth c A D cx H locs ls hP hD hS hl => lv_goto cx.1.1 cx.1.2.1 hd ht (kk p l e s m args below meth c A D cx H locs ls hP hD hS hl)
theorem N_geT {x y : Int32} {off : Int} {tgt : Nat} (hd : decode M.2.1 pc = .ok (.if_icmp .ge off, 3)) (ht : (pc : Int) + off = (tgt : Int)) (h : y ≤ x) (kk : NF ad cA M d KC KS Z tgt L st ws k n) : NF ad cA M d KC KS Z pc L (.int y :: .int x :: st) ws k n :=
  fun p l e s m args below meth c A D cx H locs ls hP hD hS hl => lv_icmp_ge cx.1.1 cx.1.2.1 hd ht (fun _ => kk p l e s m args below meth c A D cx H locs ls hP hD hS hl) (fun q => absurd h q)
theorem N_geF {x y : Int32} {off : Int} {tgt : Nat} (hd : decode M.2.1 pc = .ok (.if_icmp .ge off, 3)) (ht : (pc : Int) + off = (tgt : Int)) (h : ¬ y ≤ x) (kk : NF ad cA M d KC KS Z (pc + 3) L st ws k n) : NF ad cA M d KC KS Z pc L (.int y :: .int x :: st) ws k n :=
  fun p l e s m args below meth c A D cx H locs ls hP hD hS hl => lv_icmp_ge cx.1.1 cx.1.2.1 hd ht (fun q => absurd q h) (fun _ => kk p l e s m args below meth c A D cx H locs ls hP hD hS hl)
theorem N_iconst {z : Int} {v : Int32} (hd : decode M.2.1 pc = .ok (.iconst z, 1)) (hv : Int32.ofInt z = v) (kk : NF ad cA M d KC KS Z (pc + 1) L (.int v :: st) ws k n) : NF ad cA M d KC KS Z pc L st ws k n :=
  fun p l e s m args below meth c A D cx H locs ls hP hD hS hl => lv_iconst cx.1.1 cx.1.2.1 hd hv (kk p l e s m args below meth c A D cx H locs ls hP hD hS hl)
theorem N_bipush {z : Int} {v : Int32} (hd : decode M.2.1 pc = .ok (.bipush z, 2)) (hv : (Int8.ofInt z).toInt32 = v) (kk : NF ad cA M d KC KS Z (pc + 2) L (.int v :: st) ws k n) : NF ad cA M d KC KS Z pc L st ws k n :=
  fun p l e s m args below meth c A D cx H locs ls hP hD hS hl => lv_bipush cx.1.1 cx.1.2.1 hd hv (kk p l e s m args below meth c A D cx H locs ls hP hD hS hl)
theorem N_sipush {z : Int} {v : Int32} (hd : decode M.2.1 pc = .ok (.sipush z, 3)) (hv : (Int16.ofInt z).toInt32 = v) (kk : NF ad cA M d KC KS Z (pc + 3) L (.int v :: st) ws k n) : NF ad cA M d KC KS Z pc L st ws k n :=
  fun p l e s m args below meth c A D cx H locs ls hP hD hS hl => lv_sipush cx.1.1 cx.1.2.1 hd hv (kk p l e s m args below meth c A D cx H locs ls hP hD hS hl)
theorem N_dup {va : Value} (hd : decode M.2.1 pc = .ok (.dup, 1)) (hc : va.category = 1) (kk : NF ad cA M d KC KS Z (pc + 1) L (va :: va :: st) ws k n) : NF ad cA M d KC KS Z pc L (va :: st) ws k n :=
  fun p l e s m args below meth c A D cx H locs ls hP hD hS hl => lv_dup cx.1.1 cx.1.2.1 hd hc (kk p l e s m args below meth c A D cx H locs ls hP hD hS hl)
theorem N_ret (hd : decode M.2.1 pc = .ok (.return_, 1)) (hk : k ≤ KC) (hn : n ≤ KS) (hz : Z ws) : NF ad cA M d KC KS Z pc L [] ws k n :=
  fun p l e s m args below meth c A D cx H locs ls hP hD hS hl => W.widen hk hn (W.vret cx.1.1 cx.1.2.1 cx.2.1.1 (fun t ht hW => ⟨⟨rfl, ws, hz, by rw [ht]; exact hP, hD⟩, hS.F ht⟩) hS.2.2 hd cx.2.1.2.1)
theorem N_obj {idx x : Nat} (hd : decode M.2.1 pc = .ok (.invokespecial idx, 3)) (hlk : jWd (.methodLink M.2.2.2.2 idx Lib.objectInit)) (hi : jWd (.instanceMethod Lib.objectInit)) (hc : jWd (.code Lib.objectInit ⟨#[0xb1]⟩ 1 none)) (hdd : 1 ≤ d) (hst : (st.map fun v => v.category).sum ≤ 8) (kk : NF ad cA M d KC KS Z (pc + 3) L st ws k n) : NF ad cA M d KC KS Z pc L (.ref x :: st) ws k n :=
  fun p l e s m args below meth c A D cx H locs ls hP hD hS hl =>
    W.objInit cx.1.1 cx.1.2.1 cx.1.2.2.2 (cx.2.2.1.1.args hlk _) (cx.2.2.1.1.args hi _) (cx.2.2.1.1.args hc _) rfl (by rw [cx.1.2.2.1]; exact hl.1) rfl hd hdd (Nat.le_trans (Nat.add_le_add_right (lv_room hst) 12) (by show 8 + 12 ≤ 40 * d; omega)) (kk p l e s m args below meth c A D cx H locs ls hP hD hS hl)
theorem N_new {ci N idx : Nat} {C : String} {T : u_T} {ty : Nat → FieldType} {fs : List Value} (hd : decode M.2.1 pc = .ok (.new idx, 3)) (hcl : jCl ci C T N ty) (hl : jWd (.classLink M.2.2.2.2 idx C)) (hi : jWd (.instantiable C N)) (hin : jWd (.initialized C)) (hfs : ∀ j, j < N → defaultValue (ty j) = vp_V fs j) (hk : k + 1 ≤ KC) (hn : n + N ≤ KS) (kk : ∀ q, NF ad cA M d KC KS Z (pc + 3) L (.ref q :: st) (ws ++ [(q, .inr (ci, fs))]) (k + 1) (n + N)) : NF ad cA M d KC KS Z pc L st ws k n :=
  fun p l e s m args below meth c A D cx H locs ls hP hD hS hlo => by
    obtain ⟨hc, hw, hty, hnm⟩ := hcl
    exact va_new cx.1.1 cx.1.2.1 (fun w h => cx.2.2.1.1.args (hw w h) _) (fun w h => h) ty hty cx.1.2.2.2 (cx.2.2.1.1.args hl _) (cx.2.2.1.1.args hi _) (cx.2.2.1.1.args hin _) cx.2.2.2.1 hP hD hS cx.2.2.2.2 hc hfs hk hn hd (fun q H1 h1 h2 h3 => kk q p l e s m args below meth c A D cx H1 locs ls h1 h2 h3 hlo)
theorem nPre {p : Program} {s : State} {m : MethodId} {meth : Method} {c : Code} {A : Nat → Prop} {D : va_G} {H : Heap} {locs : List Loc} {w0 : va_W} {q ci : Nat} {fs as : List Value} (cx : NCx M p s m meth c A D cA ad) (hP : va_P D vwCl (w0 ++ [(q, .inr (ci, fs))]) H) (hD : va_D A (w0 ++ [(q, .inr (ci, fs))])) (hS : va_S A s.heap H locs) :
    PreS s H (nP ad cA D (va_A [(q, .inr (ci, fs))] H.size) (.ref q :: as) [(q, .inr (ci, fs))]) (.ref q :: as) := by
  have hq : (w0 ++ [(q, (.inr (ci, fs) : va_E))])[w0.length]? = some (q, .inr (ci, fs)) := by rw [List.getElem?_append_right (Nat.le_refl _)]; simp
  have hF : ∀ z, va_A [(q, .inr (ci, fs))] H.size z → A z := by
    rintro z (⟨j, y, hj⟩ | hz)
    · have : (w0 ++ [(q, (.inr (ci, fs) : va_E))])[w0.length + j]? = some (z, y) := by rw [List.getElem?_append_right (by omega)]; rw [show w0.length + j - w0.length = j by omega]; exact hj
      exact hD.2 _ _ this
    · exact cx.2.2.2.2 z (Nat.le_trans hS.1 hz)
  refine ⟨fun a U g mk h => ?_, fun U hU hW => ?_⟩
  · obtain ⟨h1, h2, h3, h4, h5, h6⟩ := h
    exact ⟨h1, h2, h3, h4, va_K.moved (u := U) (U := U.calling g mk a) (Vm.Alike.refl U.vm) h5, nE.eq (s := U) (U := U.calling g mk a) h6 rfl rfl (State.WarmedH.refl U)⟩
  · refine ⟨rfl, fun z h => Or.inr (by rw [hU] at h; exact h), ?_, ⟨fun i j x y hi hj _ => ?_, fun j y hj => Or.inl ⟨j, y.2, hj⟩⟩, va_K.moved hW.alike cx.2.2.2.1, (cx.2.2.1.next hS hU hW).narrow hF⟩
    · rw [hU]
      intro j y hj
      match j, hj with
      | 0, hj => cases hj; exact hP _ _ hq
      | j + 1, hj => simp at hj
    · match i, j, hi, hj with
      | 0, 0, _, _ => rfl
      | i + 1, _, hi, _ => simp at hi
      | 0, j + 1, _, hj => simp at hj
theorem N_init {M' : JM} {d' KC' KS' ci idx q n' : Nat} {fs as : List Value} {Z' : Nat → va_W → Prop} {w0 : va_W} (hd : decode M.2.1 pc = .ok (.invokespecial idx, 3)) (hlk : jWd (.methodLink M.2.2.2.2 idx M'.1)) (hms : jMs M' n') (hret : M'.2.2.2.1 = none) (hnm : M'.1.name = "<init>") (hi : jWd (.instanceMethod M'.1)) (hdd : d' + 1 ≤ d) (hn' : as.length = n') (hst : (st.map fun v => v.category).sum ≤ 8) (hC : NC ad cA M' d' KC' KS' ci fs as Z') (hk : k + KC' ≤ KC) (hn : n + KS' ≤ KS)
    (kk : ∀ w1, Z' q w1 → NF ad cA M d KC KS Z (pc + 3) L st (w0 ++ w1) (k + KC') (n + KS')) : NF ad cA M d KC KS Z pc L (as.reverse ++ .ref q :: st) (w0 ++ [(q, .inr (ci, fs))]) k n :=
  fun p l e s m args below meth c A D cx H locs ls hP hD hS hl => by
    have jt := cx.2.2.1.1
    obtain ⟨h1, h2, ⟨-, h3, h4, h5⟩, h6, -⟩ := hms
    rw [hret] at h1
    have hCC := hC l D (va_A [(q, .inr (ci, fs))] H.size) q
    rw [hret] at hCC
    refine N_run (va_runI (As := as) ⟨cx.1.1, cx.1.2.1, cx.1.2.2.1, cx.1.2.2.2, fun w h => absurd h List.not_mem_nil⟩ hCC ⟨⟨rfl, rfl, hdd, by show 8 + (M'.2.2.1 + 11) + 40 * d' ≤ 40 * d; omega, fun w hw a' U hW => ?_, List.mem_cons_self, jt.args h1 _, jt.args h2 _, ⟨h3, h4⟩, fun sig h => ?_, jt.args hlk _⟩, hnm, jt.args hi _⟩ (nPre cx hP hD hS) rfl hn' hl.1 rfl (lv_room hst) hd ⟨hk, hn⟩) hP hD hS cx.2.2.2.2
      (fun H1 locs1 w1 z1 g1 g2 g3 => kk w1 z1 p l e s m args below meth c A D cx H1 locs1 ls g1 g2 g3 hl)
    · rw [List.mem_singleton.mp hw]
      exact (jt.warm hW).args h1 a'
    · rw [h] at h5
      exact (Option.some.inj h5).symm
theorem N_initN {M' : JM} {d' KC' KS' ci idx q n' : Nat} {host : String} {fs as : List Value} {Z' : Nat → va_W → Prop} {w0 : va_W} (hd : decode M.2.1 pc = .ok (.invokespecial idx, 3)) (hlk : jWd (.methodLinkNest M.2.2.2.2 idx M'.1 host)) (hms : jMs M' n') (hret : M'.2.2.2.1 = none) (hnm : M'.1.name = "<init>") (hi : jWd (.instanceMethod M'.1)) (hdd : d' + 1 ≤ d) (hn' : as.length = n') (hst : (st.map fun v => v.category).sum ≤ 8) (hC : NC ad cA M' d' KC' KS' ci fs as Z') (hk : k + KC' ≤ KC) (hn : n + KS' ≤ KS)
    (kk : ∀ w1, Z' q w1 → NF ad cA M d KC KS Z (pc + 3) L st (w0 ++ w1) (k + KC') (n + KS')) : NF ad cA M d KC KS Z pc L (as.reverse ++ .ref q :: st) (w0 ++ [(q, .inr (ci, fs))]) k n :=
  fun p l e s m args below meth c A D cx H locs ls hP hD hS hl => by
    have jt := cx.2.2.1.1
    obtain ⟨h1, h2, ⟨-, h3, h4, h5⟩, h6, -⟩ := hms
    rw [hret] at h1
    have hCC := hC l D (va_A [(q, .inr (ci, fs))] H.size) q
    rw [hret] at hCC
    refine N_run (va_runIN (As := as) ⟨cx.1.1, cx.1.2.1, cx.1.2.2.1, cx.1.2.2.2, fun w h => absurd h List.not_mem_nil⟩ hCC ⟨⟨⟨rfl, rfl, hdd, by show 8 + (M'.2.2.1 + 11) + 40 * d' ≤ 40 * d; omega, fun w hw a' U hW => ?_, List.mem_cons_self⟩, jt.args h1 _, jt.args h2 _, ⟨h3, h4⟩, fun sig h => ?_, jt.args hlk _⟩, hnm, jt.args hi _⟩ (nPre cx hP hD hS) rfl hn' hl.1 rfl (lv_room hst) hd ⟨hk, hn⟩) hP hD hS cx.2.2.2.2
      (fun H1 locs1 w1 z1 g1 g2 g3 => kk w1 z1 p l e s m args below meth c A D cx H1 locs1 ls g1 g2 g3 hl)
    · rw [List.mem_singleton.mp hw]
      exact (jt.warm hW).args h1 a'
    · rw [h] at h5
      exact (Option.some.inj h5).symm
theorem N_putF {ci i idx : Nat} {a : Nat} {v : Value} {ty : FieldType} {fs : List Value} {C : String} {T : u_T} {N j : Nat} {ty0 : Nat → FieldType} (hd : decode M.2.1 pc = .ok (.putfield idx, 3)) (hcl : jCl ci C T N ty0) (hlk : jWd (.fieldLink M.2.2.2.2 idx (T j).1 (T j).2.1 (T j).2.2.1)) (hj : j < N) (hfin : (T j).2.2.2 = true) (hown : (T j).1 = M.2.2.2.2) (hty : parseFieldDescriptor (T j).2.2.1 = some ty) (hn : narrow ty v = v) (hfit : fits ty v = true) (hl : j < fs.length) (he : ws[i]? = some (a, .inr (ci, fs))) (kk : NF ad cA M d KC KS Z (pc + 3) L st (ws.set i (a, .inr (ci, fs.set j v))) k n) : NF ad cA M d KC KS Z pc L (v :: .ref a :: st) ws k n :=
  fun p l e s m args below meth c A D cx H locs ls hP hD hS hlo => by
    obtain ⟨hc, hw, hty0, hnm⟩ := hcl
    exact va_putF cx.1.1 cx.1.2.1 (fun w h => cx.2.2.1.1.args (hw w h) _) (fun w h => h) ty0 hty0 hnm cx.1.2.2.2 cx.2.2.2.1 hP hD hS i he hc j hj (cx.2.2.1.1.args hlk _) (fun _ h => h) hfin cx.2.1.2.2 hown hty hn hfit hl hd (fun H1 locs1 g1 g2 g3 => kk p l e s m args below meth c A D cx H1 locs1 ls g1 g2 g3 hlo)
theorem N_put {ci i idx : Nat} {a : Nat} {v : Value} {ty : FieldType} {fs : List Value} {C : String} {T : u_T} {N j : Nat} {ty0 : Nat → FieldType} (hd : decode M.2.1 pc = .ok (.putfield idx, 3)) (hcl : jCl ci C T N ty0) (hlk : jWd (.fieldLink M.2.2.2.2 idx (T j).1 (T j).2.1 (T j).2.2.1)) (hj : j < N) (hfin : (T j).2.2.2 = false) (hty : parseFieldDescriptor (T j).2.2.1 = some ty) (hn : narrow ty v = v) (hfit : fits ty v = true) (hl : j < fs.length) (he : ws[i]? = some (a, .inr (ci, fs))) (kk : NF ad cA M d KC KS Z (pc + 3) L st (ws.set i (a, .inr (ci, fs.set j v))) k n) : NF ad cA M d KC KS Z pc L (v :: .ref a :: st) ws k n :=
  fun p l e s m args below meth c A D cx H locs ls hP hD hS hlo => by
    obtain ⟨hc, hw, hty0, hnm⟩ := hcl
    exact va_put cx.1.1 cx.1.2.1 (fun w h => cx.2.2.1.1.args (hw w h) _) (fun w h => h) ty0 hty0 hnm cx.1.2.2.2 cx.2.2.2.1 hP hD hS i he hc j hj (cx.2.2.1.1.args hlk _) (fun _ h => h) hfin hty hn hfit hl hd (fun H1 locs1 g1 g2 g3 => kk p l e s m args below meth c A D cx H1 locs1 ls g1 g2 g3 hlo)
theorem N_get {ci i idx : Nat} {a : Nat} {v : Value} {fs : List Value} {C : String} {T : u_T} {N j : Nat} {ty0 : Nat → FieldType} (hd : decode M.2.1 pc = .ok (.getfield idx, 3)) (hcl : jCl ci C T N ty0) (hlk : jWd (.fieldLink M.2.2.2.2 idx (T j).1 (T j).2.1 (T j).2.2.1)) (hj : j < N) (he : ws[i]? = some (a, .inr (ci, fs))) (hv : fs[j]? = some v) (kk : NF ad cA M d KC KS Z (pc + 3) L (v :: st) ws k n) : NF ad cA M d KC KS Z pc L (.ref a :: st) ws k n :=
  fun p l e s m args below meth c A D cx H locs ls hP hD hS hlo => by
    obtain ⟨hc, hw, hty0, hnm⟩ := hcl
    exact va_get cx.1.1 cx.1.2.1 (fun w h => cx.2.2.1.1.args (hw w h) _) (fun w h => h) cx.1.2.2.2 cx.2.2.2.1 hP i he hc j hj (cx.2.2.1.1.args hlk _) (fun _ h => h) hv hd (kk p l e s m args below meth c A D cx H locs ls hP hD hS hlo)
theorem N_newa {v : Int32} {N : Nat} (hd : decode M.2.1 pc = .ok (.newarray .int, 2)) (hw : jWd (.arrayClass .int)) (hv : ¬ v < 0) (hN : v.toNatClampNeg = N) (hb : N * 4 ≤ 536870912) (hk : k + 1 ≤ KC) (hn : n + N ≤ KS) (kk : ∀ q, NF ad cA M d KC KS Z (pc + 2) L (.ref q :: st) (ws ++ [(q, .inl (cA 0, N, .inl (fun _ => 0)))]) (k + 1) (n + N)) : NF ad cA M d KC KS Z pc L (.int v :: st) ws k n :=
  fun p l e s m args below meth c A D cx H locs ls hP hD hS hlo =>
    va_newa (atype := .int) cx.1.1 cx.1.2.1 (cx.2.2.1.1.args hw _) (ty := .int) rfl cx.2.2.2.1 hP hD hS cx.2.2.2.2 (a0 := (N, .inl (fun _ => 0))) (fun _ => rfl) hv hN hb hk hn hd (fun q cA' H1 hK' h1 h2 h3 => by
      have r1 : va_RA s cA' .int := (hK'.2 4 (cA', .int) rfl).2
      have r2 : va_RA s (cA 0) .int := (cx.2.2.2.1.2 0 (cA 0, .int) rfl).2
      have e : cA' = cA 0 := Option.some.inj (r1.symm.trans r2)
      subst e
      exact kk q p l e s m args below meth c A D cx H1 locs ls h1 h2 h3 hlo)
theorem N_newq {idx t : Nat} {C : String} {v : Int32} {N : Nat} (hd : decode M.2.1 pc = .ok (.anewarray idx, 3)) (hl : jWd (.classLink M.2.2.2.2 idx C)) (ho : ∀ s A, nE ad A s → va_AO C s) (ht : (jty cA)[t]? = some (cA t, .object C)) (hv : ¬ v < 0) (hN : v.toNatClampNeg = N) (hb : N * 4 ≤ 536870912) (hk : k + 1 ≤ KC) (hn : n + N ≤ KS) (kk : ∀ q, NF ad cA M d KC KS Z (pc + 3) L (.ref q :: st) (ws ++ [(q, .inl (cA t, N, .inr (.inr (.inr (.inr (fun _ => none))))))]) (k + 1) (n + N)) : NF ad cA M d KC KS Z pc L (.int v :: st) ws k n :=
  fun p l e s m args below meth c A D cx H locs ls hP hD hS hlo =>
    va_newq cx.1.1 cx.1.2.1 cx.1.2.2.2 (cx.2.2.1.1.args hl _) (ho s A cx.2.2.1) cx.2.2.2.1 hP hD hS cx.2.2.2.2 hv hN hb hk hn hd (fun q cA' H1 hK' h1 h2 h3 => by
      obtain ⟨kA, comp, -, -, -, r1⟩ := (hK'.2 4 (cA', .object C) rfl).2
      obtain ⟨kA2, comp2, -, -, -, r2⟩ := (cx.2.2.2.1.2 t (cA t, .object C) ht).2
      have e : cA' = cA t := Option.some.inj (r1.symm.trans r2)
      subst e
      exact kk q p l e s m args below meth c A D cx H1 locs ls h1 h2 h3 hlo)
theorem N_alenq {i t a N : Nat} {C : String} {v : Int32} {f : Nat → Option Nat} (hd : decode M.2.1 pc = .ok (.arraylength, 1)) (ha : ws[i]? = some (a, .inl (cA t, N, .inr (.inr (.inr (.inr f)))))) (ht : (jty cA)[t]? = some (cA t, .object C)) (hv : Int32.ofNat N = v) (kk : NF ad cA M d KC KS Z (pc + 1) L (.int v :: st) ws k n) : NF ad cA M d KC KS Z pc L (.ref a :: st) ws k n :=
  fun p l e s m args below meth c A D cx H locs ls hP hD hS hlo => va_alen cx.1.1 cx.1.2.1 cx.2.2.2.1 hP i t ha ht hv hd (kk p l e s m args below meth c A D cx H locs ls hP hD hS hlo)
theorem N_astq {i t j ci a N v u : Nat} {r : vw_C} {vs : List Value} {f : Nat → Option Nat} (hd : decode M.2.1 pc = .ok (.aastore, 1)) (ha : ws[i]? = some (a, .inl (cA t, N, .inr (.inr (.inr (.inr f)))))) (ht : (jty cA)[t]? = some (cA t, .object r.1)) (hv : ws[j]? = some (v, .inr (ci, vs))) (hc : vwCl[ci]? = some r) (hu : u < N) (hN : N < 2 ^ 31) (kk : NF ad cA M d KC KS Z (pc + 1) L st (ws.set i (a, .inl (cA t, N, .inr (.inr (.inr (.inr (va_up f u (some v)))))))) k n) : NF ad cA M d KC KS Z pc L (.ref v :: .int (nI u) :: .ref a :: st) ws k n :=
  fun p l e s m args below meth c A D cx H locs ls hP hD hS hlo => va_astq cx.1.1 cx.1.2.1 cx.2.2.2.1 hP hD hS i t j ci ha ht hv hc (vp_in_nI hu hN) hd (fun H1 locs1 g1 g2 g3 => by
    rw [nI_clamp (by omega)] at g1 g2
    exact kk p l e s m args below meth c A D cx H1 locs1 ls g1 g2 g3 hlo)
theorem N_astS {i t a N x u : Nat} {f : Nat → Option Nat} (hx : x < 2) (hd : decode M.2.1 pc = .ok (.aastore, 1)) (ha : ws[i]? = some (a, .inl (cA t, N, .inr (.inr (.inr (.inr f)))))) (ht : (jty cA)[t]? = some (cA t, .object "java/lang/String")) (hu : u < N) (hN : N < 2 ^ 31) (kk : NF ad cA M d KC KS Z (pc + 1) L st (ws.set i (a, .inl (cA t, N, .inr (.inr (.inr (.inr (va_up f u (some (ad (202 + x)))))))))) k n) : NF ad cA M d KC KS Z pc L (.ref (ad (202 + x)) :: .int (nI u) :: .ref a :: st) ws k n :=
  fun p l e s m args below meth c A D cx H locs ls hP hD hS hlo => by
    obtain ⟨cell, r1, r2, r3⟩ := vk_recv cx.2.2.1.2.2.1.2.2.2.2 hx hS
    obtain ⟨kC, hkC, -⟩ := Vm.findClass_spec r3
    refine va_astqM cx.1.1 cx.1.2.1 cx.2.2.2.1 hP hD hS i t ha ht ⟨cell, r1, r2, ⟨kC, hkC⟩, fun comp h => ?_⟩ (vp_in_nI hu hN) hd (fun H1 locs1 g1 g2 g3 => by
      rw [nI_clamp (by omega)] at g1 g2
      exact kk p l e s m args below meth c A D cx H1 locs1 ls g1 g2 g3 hlo)
    have e : cell.cls = comp := Option.some.inj (r3.symm.trans h)
    rw [e]
    exact va_asg _ _
theorem N_ldcS {idx x : Nat} (hd : decode M.2.1 pc = .ok (.ldc idx, 2)) (hx : ∀ s A, nE ad A s → ∃ tx, vk_R M.2.2.2.2 idx tx (ad x) s) (kk : NF ad cA M d KC KS Z (pc + 2) L (.ref (ad x) :: st) ws k n) : NF ad cA M d KC KS Z pc L st ws k n :=
  fun p l e s m args below meth c A D cx H locs ls hP hD hS hlo => by
    obtain ⟨tx, h⟩ := hx s A cx.2.2.1
    exact va_ldcS cx.1.1 cx.1.2.1 cx.1.2.2.2 h hd (kk p l e s m args below meth c A D cx H locs ls hP hD hS hlo)
theorem N_iast {i a N u : Nat} {f : Nat → Int32} {x : Int32} (hd : decode M.2.1 pc = .ok (.iastore, 1)) (ha : ws[i]? = some (a, .inl (cA 0, N, .inl f))) (hu : u < N) (hN : N < 2 ^ 31) (kk : NF ad cA M d KC KS Z (pc + 1) L st (ws.set i (a, .inl (cA 0, N, .inl (upd f u x)))) k n) : NF ad cA M d KC KS Z pc L (.int x :: .int (nI u) :: .ref a :: st) ws k n :=
  fun p l e s m args below meth c A D cx H locs ls hP hD hS hlo => va_iast cx.1.1 cx.1.2.1 cx.2.2.2.1 hP hD hS i 0 ha rfl (vp_in_nI hu hN) hd (fun H1 locs1 g1 g2 g3 => by
    rw [nI_clamp (by omega)] at g1 g2
    exact kk p l e s m args below meth c A D cx H1 locs1 ls g1 g2 g3 hlo)
theorem N_max {idx : Nat} {x y v : Int32} (hd : decode M.2.1 pc = .ok (.invokestatic idx, 3)) (hlk : jWd (.methodLink M.2.2.2.2 idx Lib.Math.max.name)) (hw1 : jWd (.static Lib.Math.max.name)) (hw2 : jWd (.initialized "java/lang/Math")) (hw3 : jWd (.code Lib.Math.max.name Lib.Math.max.code 2 (some .int))) (hdd : 1 ≤ d) (hst : (st.map fun v => v.category).sum ≤ 8) (hk : k ≤ KC) (hn : n ≤ KS) (hv : (if x < y then y else x) = v) (kk : NF ad cA M d KC KS Z (pc + 3) L (.int v :: st) ws k n) : NF ad cA M d KC KS Z pc L (.int y :: .int x :: st) ws k n :=
  fun p l e s m args below meth c A D cx H locs ls hP hD hS hlo => va_mmax cx.1.1 cx.1.2.1 (cx.1.2.2.1.trans hlo.1.symm) cx.1.2.2.2 (cx.2.2.1.1.args hlk _) (cx.2.2.1.1.args hw1 _) (cx.2.2.1.1.args hw2 _) (cx.2.2.1.1.args hw3 _) hdd (Nat.le_trans (Nat.add_le_add_right hst 13) (by show 8 + 13 ≤ 40 * d; omega)) hk hn hd (by rw [hv]; exact kk p l e s m args below meth c A D cx H locs ls hP hD hS hlo)
end NR

-- THE JUDGEMENT
def jQ (D : va_G) (cA : Nat → ClassId) (ad : Nat → Nat) (Pl : List Nat) (A : Nat → Prop) (r : Option Value × JMu) : Array Value → State → Outcome → State → Prop := fun _ st oc t => (oc = .returned (r.1.map (jv ad)) ∧ va_P D vwCl (jW ad cA r.2 Pl) t.heap) ∧ va_F A st t
def JCx (M : JM) (Pl : List Nat) (p : Program) (s : State) (m : MethodId) (meth : Method) (c : Code) (A : Nat → Prop) (D : va_G) (cA : Nat → ClassId) (ad : Nat → Nat) : Prop :=
  (p.tables.exec = Jvm.exec ∧ c.code = M.2.1 ∧ c.maxLocals = M.2.2.1 ∧ s.vm.findClass M.2.2.2.2 = some m.cls) ∧ (meth.sig.returnType = M.2.2.2.1 ∧ meth.locks = false) ∧ jTW s ∧ va_K D vwCl (jty cA) s ∧ (∀ q : Nat, s.heap.size ≤ q → A q) ∧ jSt ad A s ∧ va_nd Pl = true
def JF {α : Type} (M : JM) (d : Nat) (Pl : List Nat) (emb : α → Option Value × JMu) (pc : Nat) (L : List (Option Value)) (st : List Value) (μ : JMu) (o : Option α) : Prop :=
  ∀ (p : Program) (l : Launch) (e : Env) (s : State) (m : MethodId) (args : Array Value) (below : List Frame) (meth : Method) (c : Code) (A : Nat → Prop) (D : va_G) (cA : Nat → ClassId) (ad : Nat → Nat), JCx M Pl p s m meth c A D cA ad →
  ∀ a : α, o = some a → ∀ (H : Heap) (locs : List Loc) (ls : Array Slot), va_P D vwCl (jW ad cA μ Pl) H → va_D A (jW ad cA μ Pl) → va_S A s.heap H locs → jHas ad ls M.2.2.1 L →
  W p l e (jR d) s m args below meth c H locs 0 0 (MQ below (jQ D cA ad Pl A (emb a)) args s 0 0 A) (F0 m pc ls (st.map (jv ad)))
/-- the contract of a method at these arguments and ints: what it gives -/
def JC (M : JM) (d : Nat) (Pl : List Nat) (as : List Value) (μ : JMu) (r : Option Value × JMu) : Prop :=
  ∀ (l : Launch) (D : va_G) (cA : Nat → ClassId) (ad : Nat → Nat) (A : Nat → Prop), va_nd Pl = true →
  Met l M.1 [Cond.code M.1 M.2.1 M.2.2.1 M.2.2.2.1] (jR d) (fun v U => v = (as.map (jv ad)).toArray ∧ (∀ q : Nat, U.heap.size ≤ q → A q) ∧ va_P D vwCl (jW ad cA μ Pl) U.heap ∧ va_D A (jW ad cA μ Pl) ∧ va_K D vwCl (jty cA) U ∧ jTW U ∧ jSt ad A U) (jQ D cA ad Pl A r) 0 0 A
section JR
variable {α : Type} {M : JM} {d : Nat} {Pl : List Nat} {emb : α → Option Value × JMu} {pc : Nat} {L : List (Option Value)} {st : List Value} {μ : JMu} {o : Option α}
theorem JF_none : JF M d Pl emb pc L st μ none := fun _ _ _ _ _ _ _ _ _ _ _ _ _ _ a h => by cases h
theorem JF_chk {c : Prop} [Decidable c] (k : c → JF M d Pl emb pc L st μ o) : JF M d Pl emb pc L st μ (if c then o else none) := by
  by_cases h : c
  · rw [if_pos h]; exact k h
  · rw [if_neg h]; exact JF_none
theorem JF_ite {c : Prop} [Decidable c] {o1 o2 : Option α} (k1 : c → JF M d Pl emb pc L st μ o1) (k2 : ¬ c → JF M d Pl emb pc L st μ o2) : JF M d Pl emb pc L st μ (if c then o1 else o2) := by
  by_cases h : c
  · rw [if_pos h]; exact k1 h
  · rw [if_neg h]; exact k2 h
theorem JF_eq {L2 : List (Option Value)} (h : L = L2) (k : JF M d Pl emb pc L2 st μ o) : JF M d Pl emb pc L st μ o := h ▸ k
theorem J_iconst {n : Int} {v : Int32} (hd : decode M.2.1 pc = .ok (.iconst n, 1)) (hv : Int32.ofInt n = v) (k : JF M d Pl emb (pc + 1) L (.int v :: st) μ o) : JF M d Pl emb pc L (st) μ o :=
  fun p l e s m args below meth c A D cA ad cx a ho H locs ls hP hD hS hl => lv_iconst cx.1.1 cx.1.2.1 hd hv (k p l e s m args below meth c A D cA ad cx a ho H locs ls hP hD hS hl)
theorem J_bipush {n : Int} {v : Int32} (hd : decode M.2.1 pc = .ok (.bipush n, 2)) (hv : (Int8.ofInt n).toInt32 = v) (k : JF M d Pl emb (pc + 2) L (.int v :: st) μ o) : JF M d Pl emb pc L (st) μ o :=
  fun p l e s m args below meth c A D cA ad cx a ho H locs ls hP hD hS hl => lv_bipush cx.1.1 cx.1.2.1 hd hv (k p l e s m args below meth c A D cA ad cx a ho H locs ls hP hD hS hl)
theorem J_sipush {n : Int} {v : Int32} (hd : decode M.2.1 pc = .ok (.sipush n, 3)) (hv : (Int16.ofInt n).toInt32 = v) (k : JF M d Pl emb (pc + 3) L (.int v :: st) μ o) : JF M d Pl emb pc L (st) μ o :=
  fun p l e s m args below meth c A D cA ad cx a ho H locs ls hP hD hS hl => lv_sipush cx.1.1 cx.1.2.1 hd hv (k p l e s m args below meth c A D cA ad cx a ho H locs ls hP hD hS hl)
theorem J_iadd {x y : Int32} (hd : decode M.2.1 pc = .ok (.iadd, 1))  (k : JF M d Pl emb (pc + 1) L (.int (x + y) :: st) μ o) : JF M d Pl emb pc L (.int y :: .int x :: st) μ o :=
  fun p l e s m args below meth c A D cA ad cx a ho H locs ls hP hD hS hl => lv_iadd cx.1.1 cx.1.2.1 hd  (k p l e s m args below meth c A D cA ad cx a ho H locs ls hP hD hS hl)
theorem J_isub {x y : Int32} (hd : decode M.2.1 pc = .ok (.isub, 1))  (k : JF M d Pl emb (pc + 1) L (.int (x - y) :: st) μ o) : JF M d Pl emb pc L (.int y :: .int x :: st) μ o :=
  fun p l e s m args below meth c A D cA ad cx a ho H locs ls hP hD hS hl => lv_isub cx.1.1 cx.1.2.1 hd  (k p l e s m args below meth c A D cA ad cx a ho H locs ls hP hD hS hl)
theorem J_imul {x y : Int32} (hd : decode M.2.1 pc = .ok (.imul, 1))  (k : JF M d Pl emb (pc + 1) L (.int (x * y) :: st) μ o) : JF M d Pl emb pc L (.int y :: .int x :: st) μ o :=
  fun p l e s m args below meth c A D cA ad cx a ho H locs ls hP hD hS hl => lv_imul cx.1.1 cx.1.2.1 hd  (k p l e s m args below meth c A D cA ad cx a ho H locs ls hP hD hS hl)
theorem J_iand {x y : Int32} (hd : decode M.2.1 pc = .ok (.iand, 1))  (k : JF M d Pl emb (pc + 1) L (.int (x &&& y) :: st) μ o) : JF M d Pl emb pc L (.int y :: .int x :: st) μ o :=
  fun p l e s m args below meth c A D cA ad cx a ho H locs ls hP hD hS hl => lv_iand cx.1.1 cx.1.2.1 hd  (k p l e s m args below meth c A D cA ad cx a ho H locs ls hP hD hS hl)
theorem J_ior {x y : Int32} (hd : decode M.2.1 pc = .ok (.ior, 1))  (k : JF M d Pl emb (pc + 1) L (.int (x ||| y) :: st) μ o) : JF M d Pl emb pc L (.int y :: .int x :: st) μ o :=
  fun p l e s m args below meth c A D cA ad cx a ho H locs ls hP hD hS hl => lv_ior cx.1.1 cx.1.2.1 hd  (k p l e s m args below meth c A D cA ad cx a ho H locs ls hP hD hS hl)
theorem J_ixor {x y : Int32} (hd : decode M.2.1 pc = .ok (.ixor, 1))  (k : JF M d Pl emb (pc + 1) L (.int (x ^^^ y) :: st) μ o) : JF M d Pl emb pc L (.int y :: .int x :: st) μ o :=
  fun p l e s m args below meth c A D cA ad cx a ho H locs ls hP hD hS hl => lv_ixor cx.1.1 cx.1.2.1 hd  (k p l e s m args below meth c A D cA ad cx a ho H locs ls hP hD hS hl)
theorem J_ishl {x y : Int32} (hd : decode M.2.1 pc = .ok (.ishl, 1))  (k : JF M d Pl emb (pc + 1) L (.int (x <<< (y &&& 31)) :: st) μ o) : JF M d Pl emb pc L (.int y :: .int x :: st) μ o :=
  fun p l e s m args below meth c A D cA ad cx a ho H locs ls hP hD hS hl => lv_ishl cx.1.1 cx.1.2.1 hd  (k p l e s m args below meth c A D cA ad cx a ho H locs ls hP hD hS hl)
theorem J_ishr {x y : Int32} (hd : decode M.2.1 pc = .ok (.ishr, 1))  (k : JF M d Pl emb (pc + 1) L (.int (x >>> (y &&& 31)) :: st) μ o) : JF M d Pl emb pc L (.int y :: .int x :: st) μ o :=
  fun p l e s m args below meth c A D cA ad cx a ho H locs ls hP hD hS hl => lv_ishr cx.1.1 cx.1.2.1 hd  (k p l e s m args below meth c A D cA ad cx a ho H locs ls hP hD hS hl)
theorem J_iushr {x y : Int32} (hd : decode M.2.1 pc = .ok (.iushr, 1))  (k : JF M d Pl emb (pc + 1) L (.int ((x.toUInt32 >>> (y.toUInt32 &&& Int32.toUInt32 31)).toInt32) :: st) μ o) : JF M d Pl emb pc L (.int y :: .int x :: st) μ o :=
  fun p l e s m args below meth c A D cA ad cx a ho H locs ls hP hD hS hl => lv_iushr cx.1.1 cx.1.2.1 hd rfl (k p l e s m args below meth c A D cA ad cx a ho H locs ls hP hD hS hl)
theorem J_idiv {x y : Int32} (hd : decode M.2.1 pc = .ok (.idiv, 1)) (hne : ¬ y = 0) (k : JF M d Pl emb (pc + 1) L (.int (x / y) :: st) μ o) : JF M d Pl emb pc L (.int y :: .int x :: st) μ o :=
  fun p l e s m args below meth c A D cA ad cx a ho H locs ls hP hD hS hl => lv_idiv cx.1.1 cx.1.2.1 hd hne (k p l e s m args below meth c A D cA ad cx a ho H locs ls hP hD hS hl)
theorem J_irem {x y : Int32} (hd : decode M.2.1 pc = .ok (.irem, 1)) (hne : ¬ y = 0) (k : JF M d Pl emb (pc + 1) L (.int (x - x / y * y) :: st) μ o) : JF M d Pl emb pc L (.int y :: .int x :: st) μ o :=
  fun p l e s m args below meth c A D cA ad cx a ho H locs ls hP hD hS hl => lv_irem cx.1.1 cx.1.2.1 hd hne (k p l e s m args below meth c A D cA ad cx a ho H locs ls hP hD hS hl)
theorem J_ineg {x : Int32} (hd : decode M.2.1 pc = .ok (.ineg, 1))  (k : JF M d Pl emb (pc + 1) L (.int (-x) :: st) μ o) : JF M d Pl emb pc L (.int x :: st) μ o :=
  fun p l e s m args below meth c A D cA ad cx a ho H locs ls hP hD hS hl => lv_ineg cx.1.1 cx.1.2.1 hd  (k p l e s m args below meth c A D cA ad cx a ho H locs ls hP hD hS hl)
theorem J_i2b {x : Int32} (hd : decode M.2.1 pc = .ok (.i2b, 1))  (k : JF M d Pl emb (pc + 1) L (.int (x.toInt8.toInt32) :: st) μ o) : JF M d Pl emb pc L (.int x :: st) μ o :=
  fun p l e s m args below meth c A D cA ad cx a ho H locs ls hP hD hS hl => lv_i2b cx.1.1 cx.1.2.1 hd rfl (k p l e s m args below meth c A D cA ad cx a ho H locs ls hP hD hS hl)
theorem J_i2s {x : Int32} (hd : decode M.2.1 pc = .ok (.i2s, 1))  (k : JF M d Pl emb (pc + 1) L (.int (x.toInt16.toInt32) :: st) μ o) : JF M d Pl emb pc L (.int x :: st) μ o :=
  fun p l e s m args below meth c A D cA ad cx a ho H locs ls hP hD hS hl => lv_i2s cx.1.1 cx.1.2.1 hd rfl (k p l e s m args below meth c A D cA ad cx a ho H locs ls hP hD hS hl)
theorem J_i2l {x : Int32} (hd : decode M.2.1 pc = .ok (.i2l, 1))  (k : JF M d Pl emb (pc + 1) L (.long (x.toInt64) :: st) μ o) : JF M d Pl emb pc L (.int x :: st) μ o :=
  fun p l e s m args below meth c A D cA ad cx a ho H locs ls hP hD hS hl => lv_i2l cx.1.1 cx.1.2.1 hd rfl (k p l e s m args below meth c A D cA ad cx a ho H locs ls hP hD hS hl)
theorem J_l2i {x : Int64} (hd : decode M.2.1 pc = .ok (.l2i, 1))  (k : JF M d Pl emb (pc + 1) L (.int (x.toInt32) :: st) μ o) : JF M d Pl emb pc L (.long x :: st) μ o :=
  fun p l e s m args below meth c A D cA ad cx a ho H locs ls hP hD hS hl => lv_l2i cx.1.1 cx.1.2.1 hd rfl (k p l e s m args below meth c A D cA ad cx a ho H locs ls hP hD hS hl)
theorem J_ladd {x y : Int64} (hd : decode M.2.1 pc = .ok (.ladd, 1))  (k : JF M d Pl emb (pc + 1) L (.long (x + y) :: st) μ o) : JF M d Pl emb pc L (.long y :: .long x :: st) μ o :=
  fun p l e s m args below meth c A D cA ad cx a ho H locs ls hP hD hS hl => lv_ladd cx.1.1 cx.1.2.1 hd  (k p l e s m args below meth c A D cA ad cx a ho H locs ls hP hD hS hl)
theorem J_land {x y : Int64} (hd : decode M.2.1 pc = .ok (.land, 1))  (k : JF M d Pl emb (pc + 1) L (.long (x &&& y) :: st) μ o) : JF M d Pl emb pc L (.long y :: .long x :: st) μ o :=
  fun p l e s m args below meth c A D cA ad cx a ho H locs ls hP hD hS hl => lv_land cx.1.1 cx.1.2.1 hd  (k p l e s m args below meth c A D cA ad cx a ho H locs ls hP hD hS hl)
theorem J_lor {x y : Int64} (hd : decode M.2.1 pc = .ok (.lor, 1))  (k : JF M d Pl emb (pc + 1) L (.long (x ||| y) :: st) μ o) : JF M d Pl emb pc L (.long y :: .long x :: st) μ o :=
  fun p l e s m args below meth c A D cA ad cx a ho H locs ls hP hD hS hl => lv_lor cx.1.1 cx.1.2.1 hd  (k p l e s m args below meth c A D cA ad cx a ho H locs ls hP hD hS hl)
theorem J_lshr {x : Int64} {y : Int32} (hd : decode M.2.1 pc = .ok (.lshr, 1))  (k : JF M d Pl emb (pc + 1) L (.long (x >>> (y.toInt64 &&& 63)) :: st) μ o) : JF M d Pl emb pc L (.int y :: .long x :: st) μ o :=
  fun p l e s m args below meth c A D cA ad cx a ho H locs ls hP hD hS hl => lv_lshr cx.1.1 cx.1.2.1 hd rfl (k p l e s m args below meth c A D cA ad cx a ho H locs ls hP hD hS hl)
theorem J_lshl {x : Int64} {y : Int32} (hd : decode M.2.1 pc = .ok (.lshl, 1))  (k : JF M d Pl emb (pc + 1) L (.long (x <<< (y.toInt64 &&& 63)) :: st) μ o) : JF M d Pl emb pc L (.int y :: .long x :: st) μ o :=
  fun p l e s m args below meth c A D cA ad cx a ho H locs ls hP hD hS hl => lv_lshl cx.1.1 cx.1.2.1 hd rfl (k p l e s m args below meth c A D cA ad cx a ho H locs ls hP hD hS hl)
theorem J_if_eq {x : Int32} {off : Int} {tgt : Nat} {o1 o2 : Option α} (hd : decode M.2.1 pc = .ok (.ifCond .eq off, 3)) (ht : (pc : Int) + off = (tgt : Int)) (kt : x = 0 → JF M d Pl emb tgt L st μ o1) (kf : ¬ (x = 0) → JF M d Pl emb (pc + 3) L st μ o2) : JF M d Pl emb pc L (.int x :: st) μ (if x = 0 then o1 else o2) :=
  JF_ite (fun q p l e s m args below meth c A D cA ad cx a ho H locs ls hP hD hS hl => lv_if_eq cx.1.1 cx.1.2.1 hd ht (fun q2 => kt q2 p l e s m args below meth c A D cA ad cx a ho H locs ls hP hD hS hl) (fun q2 => absurd q q2))
   (fun q p l e s m args below meth c A D cA ad cx a ho H locs ls hP hD hS hl => lv_if_eq cx.1.1 cx.1.2.1 hd ht (fun q2 => absurd q2 q) (fun q2 => kf q2 p l e s m args below meth c A D cA ad cx a ho H locs ls hP hD hS hl))
theorem J_icmp_eq {x y : Int32} {off : Int} {tgt : Nat} {o1 o2 : Option α} (hd : decode M.2.1 pc = .ok (.if_icmp .eq off, 3)) (ht : (pc : Int) + off = (tgt : Int)) (kt : x = y → JF M d Pl emb tgt L st μ o1) (kf : ¬ (x = y) → JF M d Pl emb (pc + 3) L st μ o2) : JF M d Pl emb pc L (.int y :: .int x :: st) μ (if x = y then o1 else o2) :=
  JF_ite (fun q p l e s m args below meth c A D cA ad cx a ho H locs ls hP hD hS hl => lv_icmp_eq cx.1.1 cx.1.2.1 hd ht (fun q2 => kt q2 p l e s m args below meth c A D cA ad cx a ho H locs ls hP hD hS hl) (fun q2 => absurd q q2))
   (fun q p l e s m args below meth c A D cA ad cx a ho H locs ls hP hD hS hl => lv_icmp_eq cx.1.1 cx.1.2.1 hd ht (fun q2 => absurd q2 q) (fun q2 => kf q2 p l e s m args below meth c A D cA ad cx a ho H locs ls hP hD hS hl))
theorem J_if_ne {x : Int32} {off : Int} {tgt : Nat} {o1 o2 : Option α} (hd : decode M.2.1 pc = .ok (.ifCond .ne off, 3)) (ht : (pc : Int) + off = (tgt : Int)) (kf : x = 0 → JF M d Pl emb (pc + 3) L st μ o1) (kt : ¬ (x = 0) → JF M d Pl emb tgt L st μ o2) : JF M d Pl emb pc L (.int x :: st) μ (if x = 0 then o1 else o2) :=
  JF_ite (fun q p l e s m args below meth c A D cA ad cx a ho H locs ls hP hD hS hl => lv_if_ne cx.1.1 cx.1.2.1 hd ht (fun q2 => absurd q q2) (fun q2 => kf q2 p l e s m args below meth c A D cA ad cx a ho H locs ls hP hD hS hl))
   (fun q p l e s m args below meth c A D cA ad cx a ho H locs ls hP hD hS hl => lv_if_ne cx.1.1 cx.1.2.1 hd ht (fun q2 => kt q2 p l e s m args below meth c A D cA ad cx a ho H locs ls hP hD hS hl) (fun q2 => absurd q2 q))
theorem J_icmp_ne {x y : Int32} {off : Int} {tgt : Nat} {o1 o2 : Option α} (hd : decode M.2.1 pc = .ok (.if_icmp .ne off, 3)) (ht : (pc : Int) + off = (tgt : Int)) (kf : x = y → JF M d Pl emb (pc + 3) L st μ o1) (kt : ¬ (x = y) → JF M d Pl emb tgt L st μ o2) : JF M d Pl emb pc L (.int y :: .int x :: st) μ (if x = y then o1 else o2) :=
  JF_ite (fun q p l e s m args below meth c A D cA ad cx a ho H locs ls hP hD hS hl => lv_icmp_ne cx.1.1 cx.1.2.1 hd ht (fun q2 => absurd q q2) (fun q2 => kf q2 p l e s m args below meth c A D cA ad cx a ho H locs ls hP hD hS hl))
   (fun q p l e s m args below meth c A D cA ad cx a ho H locs ls hP hD hS hl => lv_icmp_ne cx.1.1 cx.1.2.1 hd ht (fun q2 => kt q2 p l e s m args below meth c A D cA ad cx a ho H locs ls hP hD hS hl) (fun q2 => absurd q2 q))
theorem J_if_lt {x : Int32} {off : Int} {tgt : Nat} {o1 o2 : Option α} (hd : decode M.2.1 pc = .ok (.ifCond .lt off, 3)) (ht : (pc : Int) + off = (tgt : Int)) (kt : x < 0 → JF M d Pl emb tgt L st μ o1) (kf : ¬ (x < 0) → JF M d Pl emb (pc + 3) L st μ o2) : JF M d Pl emb pc L (.int x :: st) μ (if x < 0 then o1 else o2) :=
  JF_ite (fun q p l e s m args below meth c A D cA ad cx a ho H locs ls hP hD hS hl => lv_if_lt cx.1.1 cx.1.2.1 hd ht (fun q2 => kt q2 p l e s m args below meth c A D cA ad cx a ho H locs ls hP hD hS hl) (fun q2 => absurd q q2))
   (fun q p l e s m args below meth c A D cA ad cx a ho H locs ls hP hD hS hl => lv_if_lt cx.1.1 cx.1.2.1 hd ht (fun q2 => absurd q2 q) (fun q2 => kf q2 p l e s m args below meth c A D cA ad cx a ho H locs ls hP hD hS hl))
theorem J_icmp_lt {x y : Int32} {off : Int} {tgt : Nat} {o1 o2 : Option α} (hd : decode M.2.1 pc = .ok (.if_icmp .lt off, 3)) (ht : (pc : Int) + off = (tgt : Int)) (kt : x < y → JF M d Pl emb tgt L st μ o1) (kf : ¬ (x < y) → JF M d Pl emb (pc + 3) L st μ o2) : JF M d Pl emb pc L (.int y :: .int x :: st) μ (if x < y then o1 else o2) :=
  JF_ite (fun q p l e s m args below meth c A D cA ad cx a ho H locs ls hP hD hS hl => lv_icmp_lt cx.1.1 cx.1.2.1 hd ht (fun q2 => kt q2 p l e s m args below meth c A D cA ad cx a ho H locs ls hP hD hS hl) (fun q2 => absurd q q2))
   (fun q p l e s m args below meth c A D cA ad cx a ho H locs ls hP hD hS hl => lv_icmp_lt cx.1.1 cx.1.2.1 hd ht (fun q2 => absurd q2 q) (fun q2 => kf q2 p l e s m args below meth c A D cA ad cx a ho H locs ls hP hD hS hl))
theorem J_if_ge {x : Int32} {off : Int} {tgt : Nat} {o1 o2 : Option α} (hd : decode M.2.1 pc = .ok (.ifCond .ge off, 3)) (ht : (pc : Int) + off = (tgt : Int)) (kt : 0 ≤ x → JF M d Pl emb tgt L st μ o1) (kf : ¬ (0 ≤ x) → JF M d Pl emb (pc + 3) L st μ o2) : JF M d Pl emb pc L (.int x :: st) μ (if 0 ≤ x then o1 else o2) :=
  JF_ite (fun q p l e s m args below meth c A D cA ad cx a ho H locs ls hP hD hS hl => lv_if_ge cx.1.1 cx.1.2.1 hd ht (fun q2 => kt q2 p l e s m args below meth c A D cA ad cx a ho H locs ls hP hD hS hl) (fun q2 => absurd q q2))
   (fun q p l e s m args below meth c A D cA ad cx a ho H locs ls hP hD hS hl => lv_if_ge cx.1.1 cx.1.2.1 hd ht (fun q2 => absurd q2 q) (fun q2 => kf q2 p l e s m args below meth c A D cA ad cx a ho H locs ls hP hD hS hl))
theorem J_icmp_ge {x y : Int32} {off : Int} {tgt : Nat} {o1 o2 : Option α} (hd : decode M.2.1 pc = .ok (.if_icmp .ge off, 3)) (ht : (pc : Int) + off = (tgt : Int)) (kt : y ≤ x → JF M d Pl emb tgt L st μ o1) (kf : ¬ (y ≤ x) → JF M d Pl emb (pc + 3) L st μ o2) : JF M d Pl emb pc L (.int y :: .int x :: st) μ (if y ≤ x then o1 else o2) :=
  JF_ite (fun q p l e s m args below meth c A D cA ad cx a ho H locs ls hP hD hS hl => lv_icmp_ge cx.1.1 cx.1.2.1 hd ht (fun q2 => kt q2 p l e s m args below meth c A D cA ad cx a ho H locs ls hP hD hS hl) (fun q2 => absurd q q2))
   (fun q p l e s m args below meth c A D cA ad cx a ho H locs ls hP hD hS hl => lv_icmp_ge cx.1.1 cx.1.2.1 hd ht (fun q2 => absurd q2 q) (fun q2 => kf q2 p l e s m args below meth c A D cA ad cx a ho H locs ls hP hD hS hl))
theorem J_if_gt {x : Int32} {off : Int} {tgt : Nat} {o1 o2 : Option α} (hd : decode M.2.1 pc = .ok (.ifCond .gt off, 3)) (ht : (pc : Int) + off = (tgt : Int)) (kt : 0 < x → JF M d Pl emb tgt L st μ o1) (kf : ¬ (0 < x) → JF M d Pl emb (pc + 3) L st μ o2) : JF M d Pl emb pc L (.int x :: st) μ (if 0 < x then o1 else o2) :=
  JF_ite (fun q p l e s m args below meth c A D cA ad cx a ho H locs ls hP hD hS hl => lv_if_gt cx.1.1 cx.1.2.1 hd ht (fun q2 => kt q2 p l e s m args below meth c A D cA ad cx a ho H locs ls hP hD hS hl) (fun q2 => absurd q q2))
   (fun q p l e s m args below meth c A D cA ad cx a ho H locs ls hP hD hS hl => lv_if_gt cx.1.1 cx.1.2.1 hd ht (fun q2 => absurd q2 q) (fun q2 => kf q2 p l e s m args below meth c A D cA ad cx a ho H locs ls hP hD hS hl))
theorem J_icmp_gt {x y : Int32} {off : Int} {tgt : Nat} {o1 o2 : Option α} (hd : decode M.2.1 pc = .ok (.if_icmp .gt off, 3)) (ht : (pc : Int) + off = (tgt : Int)) (kt : y < x → JF M d Pl emb tgt L st μ o1) (kf : ¬ (y < x) → JF M d Pl emb (pc + 3) L st μ o2) : JF M d Pl emb pc L (.int y :: .int x :: st) μ (if y < x then o1 else o2) :=
  JF_ite (fun q p l e s m args below meth c A D cA ad cx a ho H locs ls hP hD hS hl => lv_icmp_gt cx.1.1 cx.1.2.1 hd ht (fun q2 => kt q2 p l e s m args below meth c A D cA ad cx a ho H locs ls hP hD hS hl) (fun q2 => absurd q q2))
   (fun q p l e s m args below meth c A D cA ad cx a ho H locs ls hP hD hS hl => lv_icmp_gt cx.1.1 cx.1.2.1 hd ht (fun q2 => absurd q2 q) (fun q2 => kf q2 p l e s m args below meth c A D cA ad cx a ho H locs ls hP hD hS hl))
theorem J_if_le {x : Int32} {off : Int} {tgt : Nat} {o1 o2 : Option α} (hd : decode M.2.1 pc = .ok (.ifCond .le off, 3)) (ht : (pc : Int) + off = (tgt : Int)) (kt : x ≤ 0 → JF M d Pl emb tgt L st μ o1) (kf : ¬ (x ≤ 0) → JF M d Pl emb (pc + 3) L st μ o2) : JF M d Pl emb pc L (.int x :: st) μ (if x ≤ 0 then o1 else o2) :=
  JF_ite (fun q p l e s m args below meth c A D cA ad cx a ho H locs ls hP hD hS hl => lv_if_le cx.1.1 cx.1.2.1 hd ht (fun q2 => kt q2 p l e s m args below meth c A D cA ad cx a ho H locs ls hP hD hS hl) (fun q2 => absurd q q2))
   (fun q p l e s m args below meth c A D cA ad cx a ho H locs ls hP hD hS hl => lv_if_le cx.1.1 cx.1.2.1 hd ht (fun q2 => absurd q2 q) (fun q2 => kf q2 p l e s m args below meth c A D cA ad cx a ho H locs ls hP hD hS hl))
theorem J_icmp_le {x y : Int32} {off : Int} {tgt : Nat} {o1 o2 : Option α} (hd : decode M.2.1 pc = .ok (.if_icmp .le off, 3)) (ht : (pc : Int) + off = (tgt : Int)) (kt : x ≤ y → JF M d Pl emb tgt L st μ o1) (kf : ¬ (x ≤ y) → JF M d Pl emb (pc + 3) L st μ o2) : JF M d Pl emb pc L (.int y :: .int x :: st) μ (if x ≤ y then o1 else o2) :=
  JF_ite (fun q p l e s m args below meth c A D cA ad cx a ho H locs ls hP hD hS hl => lv_icmp_le cx.1.1 cx.1.2.1 hd ht (fun q2 => kt q2 p l e s m args below meth c A D cA ad cx a ho H locs ls hP hD hS hl) (fun q2 => absurd q q2))
   (fun q p l e s m args below meth c A D cA ad cx a ho H locs ls hP hD hS hl => lv_icmp_le cx.1.1 cx.1.2.1 hd ht (fun q2 => absurd q2 q) (fun q2 => kf q2 p l e s m args below meth c A D cA ad cx a ho H locs ls hP hD hS hl))
theorem J_iload {i : Nat} {x : Int32} (hd : decode M.2.1 pc = .ok (.iload i, 2)) (hL : L[i]? = some (some (.int x))) (k : JF M d Pl emb (pc + 2) L (.int x :: st) μ o) : JF M d Pl emb pc L st μ o :=
  fun p l e s m args below meth c A D cA ad cx a ho H locs ls hP hD hS hl => lv_iload cx.1.1 cx.1.2.1 hd (hl.2.2 i _ hL) (k p l e s m args below meth c A D cA ad cx a ho H locs ls hP hD hS hl)
theorem J_iload_n {i : Fin 4} {x : Int32} (hd : decode M.2.1 pc = .ok (.iload_n i, 1)) (hL : L[(i : Nat)]? = some (some (.int x))) (k : JF M d Pl emb (pc + 1) L (.int x :: st) μ o) : JF M d Pl emb pc L st μ o :=
  fun p l e s m args below meth c A D cA ad cx a ho H locs ls hP hD hS hl => lv_iload_n cx.1.1 cx.1.2.1 hd rfl (hl.2.2 i _ hL) (k p l e s m args below meth c A D cA ad cx a ho H locs ls hP hD hS hl)
theorem J_lload_n {i : Fin 4} {x : Int64} (hd : decode M.2.1 pc = .ok (.lload_n i, 1)) (hL : L[(i : Nat)]? = some (some (.long x))) (k : JF M d Pl emb (pc + 1) L (.long x :: st) μ o) : JF M d Pl emb pc L st μ o :=
  fun p l e s m args below meth c A D cA ad cx a ho H locs ls hP hD hS hl => lv_lload_n cx.1.1 cx.1.2.1 hd rfl (hl.2.2 i _ hL) (k p l e s m args below meth c A D cA ad cx a ho H locs ls hP hD hS hl)
theorem J_aload {i : Nat} {x : Nat} (hd : decode M.2.1 pc = .ok (.aload i, 2)) (hL : L[i]? = some (some (.ref x))) (k : JF M d Pl emb (pc + 2) L (.ref x :: st) μ o) : JF M d Pl emb pc L st μ o :=
  fun p l e s m args below meth c A D cA ad cx a ho H locs ls hP hD hS hl => lv_aload cx.1.1 cx.1.2.1 hd (hl.2.2 i _ hL) (k p l e s m args below meth c A D cA ad cx a ho H locs ls hP hD hS hl)
theorem J_aload_n {i : Fin 4} {x : Nat} (hd : decode M.2.1 pc = .ok (.aload_n i, 1)) (hL : L[(i : Nat)]? = some (some (.ref x))) (k : JF M d Pl emb (pc + 1) L (.ref x :: st) μ o) : JF M d Pl emb pc L st μ o :=
  fun p l e s m args below meth c A D cA ad cx a ho H locs ls hP hD hS hl => lv_aload_n cx.1.1 cx.1.2.1 hd rfl (hl.2.2 i _ hL) (k p l e s m args below meth c A D cA ad cx a ho H locs ls hP hD hS hl)
theorem J_aloadQ {i : Nat} {x : Option Nat} (hd : decode M.2.1 pc = .ok (.aload i, 2)) (hL : L[i]? = some (some (jn x))) (k : JF M d Pl emb (pc + 2) L (jn x :: st) μ o) : JF M d Pl emb pc L st μ o :=
  fun p l e s m args below meth c A D cA ad cx a ho H locs ls hP hD hS hl => by
    have hk := k p l e s m args below meth c A D cA ad cx a ho H locs ls hP hD hS hl
    have hv := hl.2.2 i _ hL
    cases x with
    | none => exact lv_aloadN cx.1.1 cx.1.2.1 hd hv hk
    | some y => exact lv_aload cx.1.1 cx.1.2.1 hd hv hk
theorem J_aload_nQ {i : Fin 4} {x : Option Nat} (hd : decode M.2.1 pc = .ok (.aload_n i, 1)) (hL : L[(i : Nat)]? = some (some (jn x))) (k : JF M d Pl emb (pc + 1) L (jn x :: st) μ o) : JF M d Pl emb pc L st μ o :=
  fun p l e s m args below meth c A D cA ad cx a ho H locs ls hP hD hS hl => by
    have hk := k p l e s m args below meth c A D cA ad cx a ho H locs ls hP hD hS hl
    have hv := hl.2.2 i _ hL
    cases x with
    | none => exact lv_aload_nN cx.1.1 cx.1.2.1 hd rfl hv hk
    | some y => exact lv_aload_n cx.1.1 cx.1.2.1 hd rfl hv hk
theorem J_istore {i : Nat} {x : Int32} (hd : decode M.2.1 pc = .ok (.istore i, 2)) (hn : i < M.2.2.1) (hk : jok L i = true) (k : JF M d Pl emb (pc + 2) (L.set i (some (.int x))) st μ o) : JF M d Pl emb pc L (.int x :: st) μ o :=
  fun p l e s m args below meth c A D cA ad cx a ho H locs ls hP hD hS hl => lv_istore cx.1.1 cx.1.2.1 hd hl.lv hn rfl (fun ls' h' => k p l e s m args below meth c A D cA ad cx a ho H locs ls' hP hD hS (hl.store hk h'))
theorem J_istore_n {i : Fin 4} {x : Int32} (hd : decode M.2.1 pc = .ok (.istore_n i, 1)) (hn : (i : Nat) < M.2.2.1) (hk : jok L i = true) (k : JF M d Pl emb (pc + 1) (L.set i (some (.int x))) st μ o) : JF M d Pl emb pc L (.int x :: st) μ o :=
  fun p l e s m args below meth c A D cA ad cx a ho H locs ls hP hD hS hl => lv_istore_n cx.1.1 cx.1.2.1 hd rfl hl.lv hn rfl (fun ls' h' => k p l e s m args below meth c A D cA ad cx a ho H locs ls' hP hD hS (hl.store hk h'))
theorem J_astore {i : Nat} {x : Nat} (hd : decode M.2.1 pc = .ok (.astore i, 2)) (hn : i < M.2.2.1) (hk : jok L i = true) (k : JF M d Pl emb (pc + 2) (L.set i (some (.ref x))) st μ o) : JF M d Pl emb pc L (.ref x :: st) μ o :=
  fun p l e s m args below meth c A D cA ad cx a ho H locs ls hP hD hS hl => lv_astore cx.1.1 cx.1.2.1 hd hl.lv hn rfl (fun ls' h' => k p l e s m args below meth c A D cA ad cx a ho H locs ls' hP hD hS (hl.store (v := .ref x) hk h'))
theorem J_astore_n {i : Fin 4} {x : Nat} (hd : decode M.2.1 pc = .ok (.astore_n i, 1)) (hn : (i : Nat) < M.2.2.1) (hk : jok L i = true) (k : JF M d Pl emb (pc + 1) (L.set i (some (.ref x))) st μ o) : JF M d Pl emb pc L (.ref x :: st) μ o :=
  fun p l e s m args below meth c A D cA ad cx a ho H locs ls hP hD hS hl => lv_astore_n cx.1.1 cx.1.2.1 hd rfl hl.lv hn rfl (fun ls' h' => k p l e s m args below meth c A D cA ad cx a ho H locs ls' hP hD hS (hl.store (v := .ref x) hk h'))
theorem J_astoreQ {i : Nat} {x : Option Nat} (hd : decode M.2.1 pc = .ok (.astore i, 2)) (hn : i < M.2.2.1) (hk : jok L i = true) (k : JF M d Pl emb (pc + 2) (L.set i (some (jn x))) st μ o) : JF M d Pl emb pc L (jn x :: st) μ o :=
  fun p l e s m args below meth c A D cA ad cx a ho H locs ls hP hD hS hl => by
    cases x with
    | none => exact lv_astoreN cx.1.1 cx.1.2.1 hd hl.lv hn rfl (fun ls' h' => k p l e s m args below meth c A D cA ad cx a ho H locs ls' hP hD hS (hl.store (v := .null) hk h'))
    | some y => exact lv_astore cx.1.1 cx.1.2.1 hd hl.lv hn rfl (fun ls' h' => k p l e s m args below meth c A D cA ad cx a ho H locs ls' hP hD hS (hl.store (v := .ref y) hk h'))
theorem J_astore_nQ {i : Fin 4} {x : Option Nat} (hd : decode M.2.1 pc = .ok (.astore_n i, 1)) (hn : (i : Nat) < M.2.2.1) (hk : jok L i = true) (k : JF M d Pl emb (pc + 1) (L.set i (some (jn x))) st μ o) : JF M d Pl emb pc L (jn x :: st) μ o :=
  fun p l e s m args below meth c A D cA ad cx a ho H locs ls hP hD hS hl => by
    cases x with
    | none => exact lv_astore_nN cx.1.1 cx.1.2.1 hd rfl hl.lv hn rfl (fun ls' h' => k p l e s m args below meth c A D cA ad cx a ho H locs ls' hP hD hS (hl.store (v := .null) hk h'))
    | some y => exact lv_astore_n cx.1.1 cx.1.2.1 hd rfl hl.lv hn rfl (fun ls' h' => k p l e s m args below meth c A D cA ad cx a ho H locs ls' hP hD hS (hl.store (v := .ref y) hk h'))
theorem J_iinc {i : Nat} {n : Int} {x c0 : Int32} (hd : decode M.2.1 pc = .ok (.iinc i n, 3)) (hL : L[i]? = some (some (.int x))) (hv : Int32.ofInt n = c0) (hn : i < M.2.2.1) (hk : jok L i = true) (k : JF M d Pl emb (pc + 3) (L.set i (some (.int (x + c0)))) st μ o) : JF M d Pl emb pc L st μ o :=
  fun p l e s m args below meth c A D cA ad cx a ho H locs ls hP hD hS hl => by
    obtain ⟨j, hj⟩ := List.getElem?_of_mem (jLa_mem.mpr ⟨_, hL, rfl⟩ : (i, jv ad (.int x)) ∈ jLa ad L)
    exact lv_iinc (v := x + c0) cx.1.1 cx.1.2.1 hd hl.lv hj (by rw [hv]) hn rfl (fun ls' h' => k p l e s m args below meth c A D cA ad cx a ho H locs ls' hP hD hS (hl.store (v := .int (x + c0)) hk h'))
theorem J_goto {off : Int} {tgt : Nat} (hd : decode M.2.1 pc = .ok (.goto off, 3)) (ht : (pc : Int) + off = (tgt : Int)) (k : JF M d Pl emb tgt L st μ o) : JF M d Pl emb pc L st μ o :=
  fun p l e s m args below meth c A D cA ad cx a ho H locs ls hP hD hS hl => lv_goto cx.1.1 cx.1.2.1 hd ht (k p l e s m args below meth c A D cA ad cx a ho H locs ls hP hD hS hl)
theorem J_ifnull0 {off : Int} {tgt : Nat} (hd : decode M.2.1 pc = .ok (.ifnull off, 3)) (ht : (pc : Int) + off = (tgt : Int)) (k : JF M d Pl emb tgt L st μ o) : JF M d Pl emb pc L (.null :: st) μ o :=
  fun p l e s m args below meth c A D cA ad cx a ho H locs ls hP hD hS hl => lv_ifnullN cx.1.1 cx.1.2.1 hd ht (k p l e s m args below meth c A D cA ad cx a ho H locs ls hP hD hS hl)
theorem J_ifnull1 {off : Int} {x : Nat} (hd : decode M.2.1 pc = .ok (.ifnull off, 3)) (k : JF M d Pl emb (pc + 3) L st μ o) : JF M d Pl emb pc L (.ref x :: st) μ o :=
  fun p l e s m args below meth c A D cA ad cx a ho H locs ls hP hD hS hl => lv_ifnull cx.1.1 cx.1.2.1 hd (k p l e s m args below meth c A D cA ad cx a ho H locs ls hP hD hS hl)
theorem J_ifnonnull0 {off : Int} (hd : decode M.2.1 pc = .ok (.ifnonnull off, 3)) (k : JF M d Pl emb (pc + 3) L st μ o) : JF M d Pl emb pc L (.null :: st) μ o :=
  fun p l e s m args below meth c A D cA ad cx a ho H locs ls hP hD hS hl => lv_ifnonnullN cx.1.1 cx.1.2.1 hd (k p l e s m args below meth c A D cA ad cx a ho H locs ls hP hD hS hl)
theorem J_ifnonnull1 {off : Int} {tgt x : Nat} (hd : decode M.2.1 pc = .ok (.ifnonnull off, 3)) (ht : (pc : Int) + off = (tgt : Int)) (k : JF M d Pl emb tgt L st μ o) : JF M d Pl emb pc L (.ref x :: st) μ o :=
  fun p l e s m args below meth c A D cA ad cx a ho H locs ls hP hD hS hl => lv_ifnonnull cx.1.1 cx.1.2.1 hd ht (k p l e s m args below meth c A D cA ad cx a ho H locs ls hP hD hS hl)
theorem J_null (hd : decode M.2.1 pc = .ok (.aconst_null, 1)) (k : JF M d Pl emb (pc + 1) L (.null :: st) μ o) : JF M d Pl emb pc L st μ o :=
  fun p l e s m args below meth c A D cA ad cx a ho H locs ls hP hD hS hl => lv_null cx.1.1 cx.1.2.1 hd (k p l e s m args below meth c A D cA ad cx a ho H locs ls hP hD hS hl)
theorem J_ldc {i : Nat} {v : Int32} (hd : decode M.2.1 pc = .ok (.ldc i, 2)) (hw : jWd (.constant M.2.2.2.2 i v)) (k : JF M d Pl emb (pc + 2) L (.int v :: st) μ o) : JF M d Pl emb pc L st μ o :=
  fun p l e s m args below meth c A D cA ad cx a ho H locs ls hP hD hS hl => lv_ldc cx.1.1 cx.1.2.1 cx.1.2.2.2 (cx.2.2.1.args hw _) hd (k p l e s m args below meth c A D cA ad cx a ho H locs ls hP hD hS hl)
theorem J_ldcw {i : Nat} {v : Int32} (hd : decode M.2.1 pc = .ok (.ldc_w i, 3)) (hw : jWd (.constant M.2.2.2.2 i v)) (k : JF M d Pl emb (pc + 3) L (.int v :: st) μ o) : JF M d Pl emb pc L st μ o :=
  fun p l e s m args below meth c A D cA ad cx a ho H locs ls hP hD hS hl => lv_ldcw cx.1.1 cx.1.2.1 cx.1.2.2.2 (cx.2.2.1.args hw _) hd (k p l e s m args below meth c A D cA ad cx a ho H locs ls hP hD hS hl)
theorem J_ldc2 {i : Nat} {v : Int64} (hd : decode M.2.1 pc = .ok (.ldc2_w i, 3)) (hw : jWd (.constantLong M.2.2.2.2 i v)) (k : JF M d Pl emb (pc + 3) L (.long v :: st) μ o) : JF M d Pl emb pc L st μ o :=
  fun p l e s m args below meth c A D cA ad cx a ho H locs ls hP hD hS hl => lv_ldc2 cx.1.1 cx.1.2.1 cx.1.2.2.2 (cx.2.2.1.args hw _) hd (k p l e s m args below meth c A D cA ad cx a ho H locs ls hP hD hS hl)
theorem J_dup {va : Value} (hd : decode M.2.1 pc = .ok (.dup, 1)) (hc : va.category = 1) (k : JF M d Pl emb (pc + 1) L (va :: va :: st) μ o) : JF M d Pl emb pc L (va :: st) μ o :=
  fun p l e s m args below meth c A D cA ad cx a ho H locs ls hP hD hS hl => lv_dup cx.1.1 cx.1.2.1 hd (by rw [jv_cat]; exact hc) (k p l e s m args below meth c A D cA ad cx a ho H locs ls hP hD hS hl)
theorem J_pop {va : Value} (hd : decode M.2.1 pc = .ok (.pop, 1)) (hc : va.category = 1) (k : JF M d Pl emb (pc + 1) L st μ o) : JF M d Pl emb pc L (va :: st) μ o :=
  fun p l e s m args below meth c A D cA ad cx a ho H locs ls hP hD hS hl => lv_pop cx.1.1 cx.1.2.1 hd (by rw [jv_cat]; exact hc) (k p l e s m args below meth c A D cA ad cx a ho H locs ls hP hD hS hl)
theorem J_dup2 {va vb : Value} (hd : decode M.2.1 pc = .ok (.dup2, 1)) (hc : va.category = 1) (hc2 : vb.category = 1) (k : JF M d Pl emb (pc + 1) L (va :: vb :: va :: vb :: st) μ o) : JF M d Pl emb pc L (va :: vb :: st) μ o :=
  fun p l e s m args below meth c A D cA ad cx a ho H locs ls hP hD hS hl => lv_dup2_11 cx.1.1 cx.1.2.1 hd (by rw [jv_cat]; exact hc) (by rw [jv_cat]; exact hc2) (k p l e s m args below meth c A D cA ad cx a ho H locs ls hP hD hS hl)
theorem J_lcmp {x y : Int64} (hd : decode M.2.1 pc = .ok (.lcmp, 1)) (k : JF M d Pl emb (pc + 1) L (.int (lg_cmp x y) :: st) μ o) : JF M d Pl emb pc L (.long y :: .long x :: st) μ o :=
  fun p l e s m args below meth c A D cA ad cx a ho H locs ls hP hD hS hl => W.lcmp cx.1.1 cx.1.2.1 hd (k p l e s m args below meth c A D cA ad cx a ho H locs ls hP hD hS hl)
-- switches, at a case
theorem J_tabIn {dflt lo hi : Int} {offs : Array Int} {len : Nat} {x : Int32} {off : Int} {tgt : Nat} (y : Int32) (hd : decode M.2.1 pc = .ok (.tableswitch dflt lo hi offs, len)) (hx : x = y) (h1 : ¬ y.toInt < lo) (h2 : ¬ hi < y.toInt) (ho : offs[(y.toInt - lo).toNat]? = some off) (ht : (pc : Int) + off = (tgt : Int)) (k : JF M d Pl emb tgt L st μ o) : JF M d Pl emb pc L (.int x :: st) μ o :=
  fun p l e s m args below meth c A D cA ad cx a ho2 H locs ls hP hD hS hl => by subst hx; exact lv_tableIn cx.1.1 cx.1.2.1 hd h1 h2 ho ht (k p l e s m args below meth c A D cA ad cx a ho2 H locs ls hP hD hS hl)
theorem J_tabOut {dflt lo hi : Int} {offs : Array Int} {len : Nat} {x : Int32} {tgt : Nat} (hd : decode M.2.1 pc = .ok (.tableswitch dflt lo hi offs, len)) (h : x.toInt < lo ∨ hi < x.toInt) (ht : (pc : Int) + dflt = (tgt : Int)) (k : JF M d Pl emb tgt L st μ o) : JF M d Pl emb pc L (.int x :: st) μ o :=
  fun p l e s m args below meth c A D cA ad cx a ho2 H locs ls hP hD hS hl => lv_tableOut cx.1.1 cx.1.2.1 hd h ht (k p l e s m args below meth c A D cA ad cx a ho2 H locs ls hP hD hS hl)
theorem J_look {dflt : Int} {ps : Array (Int × Int)} {len : Nat} {x : Int32} {off : Int} {tgt : Nat} (hd : decode M.2.1 pc = .ok (.lookupswitch dflt ps, len)) (hp : (ps.toList.zip (ps.toList.drop 1)).all (fun (a, next) => a.1 < next.1) = true) (ho : Op.lookupswitch.offset ps.toList dflt x.toInt = off) (ht : (pc : Int) + off = (tgt : Int)) (k : JF M d Pl emb tgt L st μ o) : JF M d Pl emb pc L (.int x :: st) μ o :=
  fun p l e s m args below meth c A D cA ad cx a ho2 H locs ls hP hD hS hl => lv_lookup cx.1.1 cx.1.2.1 hd hp ho ht (k p l e s m args below meth c A D cA ad cx a ho2 H locs ls hP hD hS hl)
-- the end
theorem J_iret {v : Int32} {a : α} (hd : decode M.2.1 pc = .ok (.ireturn, 1)) (hr : M.2.2.2.1 = some .int) (he : emb a = (some (.int v), μ)) : JF M d Pl emb pc L [.int v] μ (some a) :=
  fun p l e s m args below meth c A D cA ad cx a' ho H locs ls hP hD hS hl => by
    cases ho
    exact W.iret cx.1.1 cx.1.2.1 (cx.2.1.1.trans hr) (fun t ht hW => ⟨⟨by rw [he]; rfl, by rw [he, ht]; exact hP⟩, hS.F ht⟩) hS.2.2 hd cx.2.1.2
theorem J_zret {v : Int32} {a : α} (hd : decode M.2.1 pc = .ok (.ireturn, 1)) (hr : M.2.2.2.1 = some .boolean) (hv : v = 0 ∨ v = 1) (he : emb a = (some (.int v), μ)) : JF M d Pl emb pc L [.int v] μ (some a) :=
  fun p l e s m args below meth c A D cA ad cx a' ho H locs ls hP hD hS hl => by
    cases ho
    exact W.zret cx.1.1 cx.1.2.1 (cx.2.1.1.trans hr) (by rcases hv with rfl | rfl <;> rfl) (fun t ht hW => ⟨⟨by rw [he]; rfl, by rw [he, ht]; exact hP⟩, hS.F ht⟩) hS.2.2 hd cx.2.1.2
theorem J_vret {a : α} (hd : decode M.2.1 pc = .ok (.return_, 1)) (hr : M.2.2.2.1 = none) (he : emb a = (none, μ)) : JF M d Pl emb pc L [] μ (some a) :=
  fun p l e s m args below meth c A D cA ad cx a' ho H locs ls hP hD hS hl => by
    cases ho
    exact W.vret cx.1.1 cx.1.2.1 (cx.2.1.1.trans hr) (fun t ht hW => ⟨⟨by rw [he]; rfl, by rw [he, ht]; exact hP⟩, hS.F ht⟩) hS.2.2 hd cx.2.1.2
theorem J_aret {v : Option Nat} {a : α} {rt : String} (hd : decode M.2.1 pc = .ok (.areturn, 1)) (hr : M.2.2.2.1 = some (.object rt)) (he : emb a = (some (jn v), μ)) : JF M d Pl emb pc L [jn v] μ (some a) :=
  fun p l e s m args below meth c A D cA ad cx a' ho H locs ls hP hD hS hl => by
    cases ho
    exact W.aret (v := jv ad (jn v)) cx.1.1 cx.1.2.1 (cx.2.1.1.trans hr) (Or.inl ⟨_, rfl⟩) (by cases v with | none => exact Or.inl rfl | some y => exact Or.inr ⟨_, rfl⟩) (fun t ht hW => ⟨⟨by rw [he]; rfl, by rw [he, ht]; exact hP⟩, hS.F ht⟩) hS.2.2 hd cx.2.1.2
end JR

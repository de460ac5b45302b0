section JH
-- the cell at a place, looked up
theorem jO_spec {Pl : List Nat} {p ci : Nat} (h : jO Pl p ci = true) : ∃ (q : Nat) (fs : List (Option Nat)), Pl[q]? = some p ∧ jSh p = .inl (ci, fs) ∧ fs.map Option.isSome = jPat ci := by
  unfold jO at h
  rw [Bool.and_eq_true] at h
  obtain ⟨q, hq⟩ := jPl_at h.1
  have h2 := h.2
  cases hs : jSh p with
  | inl x =>
    obtain ⟨c, fs⟩ := x
    rw [hs] at h2
    simp only [Bool.and_eq_true, beq_iff_eq] at h2
    exact ⟨q, fs, hq, by rw [h2.1], h2.2⟩
  | inr x => rw [hs] at h2; cases h2
theorem jI_spec {Pl : List Nat} {p : Nat} (h : jI Pl p = true) : ∃ q : Nat, Pl[q]? = some p ∧ jSh p = .inr (.inl (jlen p)) := by
  unfold jI at h
  rw [Bool.and_eq_true] at h
  obtain ⟨q, hq⟩ := jPl_at h.1
  have h2 := h.2
  refine ⟨q, hq, ?_⟩
  unfold jlen
  cases hs : jSh p with
  | inl x => rw [hs] at h2; cases h2
  | inr x =>
    cases x with
    | inl n => rfl
    | inr y => rw [hs] at h2; cases h2
theorem jQr_spec {Pl : List Nat} {p t : Nat} (h : jQr Pl p t = true) : ∃ (q : Nat) (l : List (Option Nat)), Pl[q]? = some p ∧ jSh p = .inr (.inr (t, l)) := by
  unfold jQr at h
  rw [Bool.and_eq_true] at h
  obtain ⟨q, hq⟩ := jPl_at h.1
  have h2 := h.2
  cases hs : jSh p with
  | inl x => rw [hs] at h2; cases h2
  | inr x =>
    cases x with
    | inl n => rw [hs] at h2; cases h2
    | inr y =>
      obtain ⟨t', l⟩ := y
      rw [hs] at h2
      have e : t' = t := by simpa using h2
      exact ⟨q, l, hq, by rw [e]⟩
theorem jCell_O {ad : Nat → Nat} {cA : Nat → ClassId} {μ : JMu} {p ci : Nat} {fs : List (Option Nat)} (h : jSh p = .inl (ci, fs)) : jCell ad cA μ p = .inr (ci, fs.mapIdx (fun k o => jfv ad μ p k o)) := by unfold jCell; rw [h]
theorem jCell_I {ad : Nat → Nat} {cA : Nat → ClassId} {μ : JMu} {p n : Nat} (h : jSh p = .inr (.inl n)) : jCell ad cA μ p = .inl (cA 0, n, .inl (fun k => μ p k)) := by unfold jCell; rw [h]
theorem jCell_Q {ad : Nat → Nat} {cA : Nat → ClassId} {μ : JMu} {p t : Nat} {l : List (Option Nat)} (h : jSh p = .inr (.inr (t, l))) : jCell ad cA μ p = .inl (cA t, l.length, .inr (.inr (.inr (.inr (fun k => ((l[k]?).getD none).map ad))))) := by unfold jCell; rw [h]
theorem jfs_int {fs : List (Option Nat)} {k : Nat} {P : List Bool} (h : fs.map Option.isSome = P) (hp : P[k]? = some false) : fs[k]? = some none := by
  rw [← h, List.getElem?_map] at hp
  cases hk : fs[k]? with
  | none => rw [hk] at hp; cases hp
  | some o => cases o with
    | none => rfl
    | some q => rw [hk] at hp; cases hp
theorem jfs_ref {fs : List (Option Nat)} {k : Nat} {P : List Bool} (h : fs.map Option.isSome = P) (hp : P[k]? = some true) : ∃ q, fs[k]? = some (some q) := by
  rw [← h, List.getElem?_map] at hp
  cases hk : fs[k]? with
  | none => rw [hk] at hp; cases hp
  | some o => cases o with
    | none => rw [hk] at hp; cases hp
    | some q => exact ⟨q, rfl⟩
theorem jput_O {ad : Nat → Nat} {cA : Nat → ClassId} {μ : JMu} {p ci k : Nat} {v : Int32} {fs : List (Option Nat)} (h : jSh p = .inl (ci, fs)) (hk : fs[k]? = some none) : (.inr (ci, (fs.mapIdx (fun k o => jfv ad μ p k o)).set k (.int v)) : va_E) = jCell ad cA (jup μ p k v) p := by
  rw [jCell_O h]
  congr 2
  apply List.ext_getElem?
  intro j
  by_cases e : j = k
  · subst e
    have hlt : j < (fs.mapIdx (fun k o => jfv ad μ p k o)).length := by
      rw [List.length_mapIdx]; exact (List.getElem?_eq_some_iff.mp hk).1
    rw [List.getElem?_set_self hlt, List.getElem?_mapIdx, hk]
    simp [jfv, jup]
  · rw [List.getElem?_set_ne (Ne.symm e), List.getElem?_mapIdx, List.getElem?_mapIdx]
    cases fs[j]? with
    | none => rfl
    | some o => cases o <;> simp [jfv, jup, e]
theorem jput_I {ad : Nat → Nat} {cA : Nat → ClassId} {μ : JMu} {p n k : Nat} {v : Int32} (h : jSh p = .inr (.inl n)) : (.inl (cA 0, n, .inl (upd (fun j => μ p j) k v)) : va_E) = jCell ad cA (jup μ p k v) p := by
  rw [jCell_I h]
  congr 4
  funext j
  simp [upd, jup]
theorem jcp_I {ad : Nat → Nat} {cA : Nat → ClassId} {μ : JMu} {p0 p1 m sp dp n : Nat} (h : jSh p1 = .inr (.inl m)) : (.inl (cA 0, m, .inl (va_cpy (fun j => μ p0 j) (fun j => μ p1 j) sp dp n)) : va_E) = jCell ad cA (jcp μ p0 p1 sp dp n) p1 := by
  rw [jCell_I h]
  congr 4
  funext j
  simp [va_cpy, jcp]
theorem jcp_other {ad : Nat → Nat} {cA : Nat → ClassId} {μ : JMu} {p0 p1 sp dp n : Nat} (q : Nat) (h : q ≠ p1) : jCell ad cA (jcp μ p0 p1 sp dp n) q = jCell ad cA μ q := by
  have e : ∀ j, jcp μ p0 p1 sp dp n q j = μ q j := fun j => by simp [jcp, h]
  unfold jCell
  cases hs : jSh q with
  | inl x =>
    obtain ⟨ci, fs⟩ := x
    simp only
    congr 2
    apply List.ext_getElem?
    intro j
    simp only [List.getElem?_mapIdx]
    cases fs[j]? with
    | none => rfl
    | some o => cases o <;> simp [jfv, e]
  | inr x =>
    cases x with
    | inl n => simp only [e]
    | inr y => rfl
end JH
-- what the tables say of a field, of a callee
def jCl (ci : Nat) (C : String) (T : u_T) (N : Nat) (ty0 : Nat → FieldType) : Prop := vwCl[ci]? = some (C, T, N) ∧ (∀ w ∈ u_ws C T N, jWd w) ∧ (∀ k, k < N → parseFieldDescriptor (T k).2.2.1 = some (ty0 k)) ∧ (∀ a, a < N → ∀ b, b < N → a ≠ b → (T a).2.1 ≠ (T b).2.1)
def jFd (own : String) (idx ci k : Nat) (ty : FieldType) (fin : Bool) : Prop := ∃ (C : String) (T : u_T) (N : Nat) (ty0 : Nat → FieldType), jCl ci C T N ty0 ∧ k < N ∧ (ty0 k = ty ∧ (T k).2.2.2 = fin) ∧ (jWd (.fieldLink own idx (T k).1 (T k).2.1 (T k).2.2.1) ∨ ∃ host : String, jWd (.fieldLinkNest own idx (T k).1 (T k).2.1 (T k).2.2.1 host))
theorem jWd_t1 {w : Cond} {i : Nat} (h : tables_1_1[i]? = some w) (hg : jGood w = true) : jWd w := ⟨List.mem_append_right _ (List.mem_append_left _ (List.mem_of_getElem? h)), hg⟩
theorem jWd_t2 {w : Cond} {i : Nat} (h : tables_1_2[i]? = some w) (hg : jGood w = true) : jWd w := ⟨List.mem_append_right _ (List.mem_append_right _ (List.mem_append_left _ (List.mem_of_getElem? h))), hg⟩
theorem jWd_t3 {w : Cond} {i : Nat} (h : tables_1_3[i]? = some w) (hg : jGood w = true) : jWd w := ⟨List.mem_append_right _ (List.mem_append_right _ (List.mem_append_right _ (List.mem_append_left _ (List.mem_of_getElem? h)))), hg⟩
theorem jWd_t4 {w : Cond} {i : Nat} (h : tables_1_4[i]? = some w) (hg : jGood w = true) : jWd w := ⟨List.mem_append_right _ (List.mem_append_right _ (List.mem_append_right _ (List.mem_append_right _ (List.mem_append_left _ (List.mem_of_getElem? h))))), hg⟩
theorem jWd_t5 {w : Cond} {i : Nat} (h : tables_1_5[i]? = some w) (hg : jGood w = true) : jWd w := ⟨List.mem_append_right _ (List.mem_append_right _ (List.mem_append_right _ (List.mem_append_right _ (List.mem_append_right _ (List.mem_append_left _ (List.mem_of_getElem? h)))))), hg⟩
theorem jWd_t6 {w : Cond} {i : Nat} (h : tables_1_6[i]? = some w) (hg : jGood w = true) : jWd w := ⟨List.mem_append_right _ (List.mem_append_right _ (List.mem_append_right _ (List.mem_append_right _ (List.mem_append_right _ (List.mem_append_right _ (List.mem_of_getElem? h)))))), hg⟩
theorem jWd_sel {y : MethodName} {n i : Nat} (h : lw_privs[i]? = some (y, n)) : jWd (.selects y.cls y y) := ⟨List.mem_append_left _ (List.mem_map.mpr ⟨_, List.mem_of_getElem? h, rfl⟩), rfl⟩
def jMs (M : JM) (n : Nat) : Prop := jWd (.code M.1 M.2.1 M.2.2.1 M.2.2.2.1) ∧ jWd (.initialized M.1.cls) ∧ (plainName M.1.cls = true ∧ M.1.cls ≠ "java/lang/invoke/MethodHandle" ∧ M.1.cls ≠ "java/lang/invoke/VarHandle" ∧ (parseMethodDescriptor M.1.desc).map (fun d => d.parameters.length) = some n) ∧ M.2.2.1 ≤ 21 ∧ M.2.2.2.2 = M.1.cls
def jdrop (ks : List Nat) (L : List (Option Value)) : List (Option Value) := ks.foldl (fun l k => l.set k none) L
theorem jHas.drop {ad : Nat → Nat} {ls : Array Slot} {nL : Nat} (ks : List Nat) : ∀ {L : List (Option Value)}, jHas ad ls nL L → jHas ad ls nL (jdrop ks L) := by
  induction ks with
  | nil => intro L h; exact h
  | cons k ks ih =>
    intro L h
    refine ih (L := L.set k none) ⟨h.1, h.2.1, fun i v hi => h.2.2 i v ?_⟩
    by_cases e : i = k
    · subst e
      rw [List.getElem?_set] at hi
      split at hi
      · split at hi <;> cases hi
      · exact hi
    · rwa [List.getElem?_set_ne (Ne.symm e)] at hi
theorem jin_spec {i : Int32} {n : Nat} (h : jin i n = true) : vp_in i n := by
  unfold jin at h
  unfold vp_in
  exact of_decide_eq_true h
section JR2
variable {α : Type} {M : JM} {d : Nat} {Pl : List Nat} {emb : α → Option Value × JMu} {pc : Nat} {L : List (Option Value)} {st : List Value} {μ : JMu} {o : Option α}
theorem JF_drop (ks : List Nat) (k : JF M d Pl emb pc (jdrop ks L) st μ o) : JF M d Pl emb pc L st μ o :=
  fun p l e s m args below meth c A D cA ad cx a ho H locs ls hP hD hS hl => k p l e s m args below meth c A D cA ad cx a ho H locs ls hP hD hS (hl.drop ks)
theorem J_getI {ci k idx q : Nat} {ty : FieldType} {fin : Bool} (hd : decode M.2.1 pc = .ok (.getfield idx, 3)) (hf : jFd M.2.2.2.2 idx ci k ty fin) (hp : (jPat ci)[k]? = some false) (hO : jO Pl q ci = true) (kk : JF M d Pl emb (pc + 3) L (.int (μ q k) :: st) μ o) : JF M d Pl emb pc L (.ref q :: st) μ o :=
  fun p l e s m args below meth c A D cA ad cx a ho H locs ls hP hD hS hl => by
    have kk' := kk p l e s m args below meth c A D cA ad cx a ho H locs ls hP hD hS hl
    obtain ⟨C, T, N, ty0, ⟨hc, hw, -, -⟩, hk, -, hlk⟩ := hf
    obtain ⟨i, fs, hi, hs, hfs⟩ := jO_spec hO
    have he := jW_get (ad := ad) (cA := cA) (μ := μ) hi
    rw [jCell_O hs] at he
    have hv : (fs.mapIdx (fun k o => jfv ad μ q k o))[k]? = some (.int (μ q k)) := by
      rw [List.getElem?_mapIdx, jfs_int hfs hp]; rfl
    rcases hlk with hlk | ⟨host, hlk⟩
    · exact va_get cx.1.1 cx.1.2.1 (fun w h => cx.2.2.1.args (hw w h) _) (fun w h => h) cx.1.2.2.2 cx.2.2.2.1 hP i he hc k hk (cx.2.2.1.args hlk _) (fun _ h => h) hv hd kk'
    · exact va_getN cx.1.1 cx.1.2.1 (fun w h => cx.2.2.1.args (hw w h) _) (fun w h => h) cx.1.2.2.2 cx.2.2.2.1 hP i he hc k hk (cx.2.2.1.args hlk _) (fun _ h => h) hv hd kk'
theorem J_getR {ci k idx q r : Nat} {ty : FieldType} {fin : Bool} (hd : decode M.2.1 pc = .ok (.getfield idx, 3)) (hf : jFd M.2.2.2.2 idx ci k ty fin) (hp : (jPat ci)[k]? = some true) (hO : jO Pl q ci = true) (hr : jrf q k = r) (kk : JF M d Pl emb (pc + 3) L (.ref r :: st) μ o) : JF M d Pl emb pc L (.ref q :: st) μ o :=
  fun p l e s m args below meth c A D cA ad cx a ho H locs ls hP hD hS hl => by
    have kk' := kk p l e s m args below meth c A D cA ad cx a ho H locs ls hP hD hS hl
    obtain ⟨C, T, N, ty0, ⟨hc, hw, -, -⟩, hk, -, hlk⟩ := hf
    obtain ⟨i, fs, hi, hs, hfs⟩ := jO_spec hO
    have he := jW_get (ad := ad) (cA := cA) (μ := μ) hi
    rw [jCell_O hs] at he
    obtain ⟨y, hy⟩ := jfs_ref hfs hp
    have hry : r = y := by rw [← hr]; unfold jrf; rw [hs]; simp [hy]
    have hv : (fs.mapIdx (fun k o => jfv ad μ q k o))[k]? = some (.ref (ad r)) := by
      rw [List.getElem?_mapIdx, hy, hry]; rfl
    rcases hlk with hlk | ⟨host, hlk⟩
    · exact va_get cx.1.1 cx.1.2.1 (fun w h => cx.2.2.1.args (hw w h) _) (fun w h => h) cx.1.2.2.2 cx.2.2.2.1 hP i he hc k hk (cx.2.2.1.args hlk _) (fun _ h => h) hv hd kk'
    · exact va_getN cx.1.1 cx.1.2.1 (fun w h => cx.2.2.1.args (hw w h) _) (fun w h => h) cx.1.2.2.2 cx.2.2.2.1 hP i he hc k hk (cx.2.2.1.args hlk _) (fun _ h => h) hv hd kk'
theorem J_put {ci k idx q : Nat} {v : Int32} {ty : FieldType} (hd : decode M.2.1 pc = .ok (.putfield idx, 3)) (hf : jFd M.2.2.2.2 idx ci k ty false) (hp : (jPat ci)[k]? = some false) (hO : jO Pl q ci = true) (hn : narrow ty (.int v) = .int v) (hfit : fits ty (.int v) = true) (kk : JF M d Pl emb (pc + 3) L st (jup μ q k v) o) : JF M d Pl emb pc L (.int v :: .ref q :: st) μ o :=
  fun p l e s m args below meth c A D cA ad cx a ho H locs ls hP hD hS hl => by
    obtain ⟨C, T, N, ty0, ⟨hc, hw, hty, hnm⟩, hk, ⟨hty2, hfin⟩, hlk⟩ := hf
    obtain ⟨i, fs, hi, hs, hfs⟩ := jO_spec hO
    have he := jW_get (ad := ad) (cA := cA) (μ := μ) hi
    rw [jCell_O hs] at he
    have hkf := jfs_int hfs hp
    have hlen : k < (fs.mapIdx (fun k o => jfv ad μ q k o)).length := by
      rw [List.length_mapIdx]; exact (List.getElem?_eq_some_iff.mp hkf).1
    have hset := jW_set (ad := ad) (cA := cA) (μ := μ) cx.2.2.2.2.2.2 hi (jput_O (v := v) (ad := ad) (cA := cA) (μ := μ) hs hkf) (fun y hy => jCell_other y hy)
    have kk' : ∀ (H1 : Heap) (locs1 : List Loc), va_P D vwCl ((jW ad cA μ Pl).set i (ad q, .inr (ci, (fs.mapIdx (fun k o => jfv ad μ q k o)).set k (.int v)))) H1 → va_D A ((jW ad cA μ Pl).set i (ad q, .inr (ci, (fs.mapIdx (fun k o => jfv ad μ q k o)).set k (.int v)))) → va_S A s.heap H1 locs1 → W p l e (jR d) s m args below meth c H1 locs1 0 0 (MQ below (jQ D cA ad Pl A (emb a)) args s 0 0 A) (F0 m (pc + 3) ls (st.map (jv ad))) := by
      intro H1 locs1 h1 h2 h3
      rw [hset] at h1 h2
      exact kk p l e s m args below meth c A D cA ad cx a ho H1 locs1 ls h1 h2 h3 hl
    have hdd : parseFieldDescriptor (T k).2.2.1 = some ty := by rw [hty k hk, hty2]
    rcases hlk with hlk | ⟨host, hlk⟩
    · exact va_put cx.1.1 cx.1.2.1 (fun w h => cx.2.2.1.args (hw w h) _) (fun w h => h) ty0 hty hnm cx.1.2.2.2 cx.2.2.2.1 hP hD hS i he hc k hk (cx.2.2.1.args hlk _) (fun _ h => h) hfin hdd hn hfit hlen hd kk'
    · exact va_putN cx.1.1 cx.1.2.1 (fun w h => cx.2.2.1.args (hw w h) _) (fun w h => h) ty0 hty hnm cx.1.2.2.2 cx.2.2.2.1 hP hD hS i he hc k hk (cx.2.2.1.args hlk _) (fun _ h => h) hfin hdd hn hfit hlen hd kk'
theorem J_putI {ci k idx q : Nat} {v : Int32} (hd : decode M.2.1 pc = .ok (.putfield idx, 3)) (hf : jFd M.2.2.2.2 idx ci k .int false) (hp : (jPat ci)[k]? = some false) (hO : jO Pl q ci = true) (kk : JF M d Pl emb (pc + 3) L st (jup μ q k v) o) : JF M d Pl emb pc L (.int v :: .ref q :: st) μ o := J_put hd hf hp hO rfl rfl kk
theorem J_putZ {ci k idx q : Nat} {v : Int32} (hd : decode M.2.1 pc = .ok (.putfield idx, 3)) (hf : jFd M.2.2.2.2 idx ci k .boolean false) (hp : (jPat ci)[k]? = some false) (hO : jO Pl q ci = true) (hv : v = 0 ∨ v = 1) (kk : JF M d Pl emb (pc + 3) L st (jup μ q k v) o) : JF M d Pl emb pc L (.int v :: .ref q :: st) μ o := J_put hd hf hp hO (by rcases hv with rfl | rfl <;> rfl) (by rcases hv with rfl | rfl <;> rfl) kk
theorem J_iald {q n j : Nat} {i : Int32} (hd : decode M.2.1 pc = .ok (.iaload, 1)) (hI : jI Pl q = true) (hlen : jlen q = n) (hin : vp_in i n) (hj : i.toNatClampNeg = j) (kk : JF M d Pl emb (pc + 1) L (.int (μ q j) :: st) μ o) : JF M d Pl emb pc L (.int i :: .ref q :: st) μ o :=
  fun p l e s m args below meth c A D cA ad cx a ho H locs ls hP hD hS hl => by
    subst hlen; subst hj
    obtain ⟨j, hj, hs⟩ := jI_spec hI
    have he := jW_get (ad := ad) (cA := cA) (μ := μ) hj
    rw [jCell_I hs] at he
    exact va_iald cx.1.1 cx.1.2.1 cx.2.2.2.1 hP j 0 he rfl hin hd (kk p l e s m args below meth c A D cA ad cx a ho H locs ls hP hD hS hl)
theorem J_iast {q n j : Nat} {i x : Int32} (hd : decode M.2.1 pc = .ok (.iastore, 1)) (hI : jI Pl q = true) (hlen : jlen q = n) (hin : vp_in i n) (hj : i.toNatClampNeg = j) (kk : JF M d Pl emb (pc + 1) L st (jup μ q j x) o) : JF M d Pl emb pc L (.int x :: .int i :: .ref q :: st) μ o :=
  fun p l e s m args below meth c A D cA ad cx a ho H locs ls hP hD hS hl => by
    subst hlen; subst hj
    obtain ⟨j, hj, hs⟩ := jI_spec hI
    have he := jW_get (ad := ad) (cA := cA) (μ := μ) hj
    rw [jCell_I hs] at he
    have hset := jW_set (ad := ad) (cA := cA) (μ := μ) cx.2.2.2.2.2.2 hj (jput_I (k := i.toNatClampNeg) (v := x) (ad := ad) (cA := cA) (μ := μ) hs) (fun y hy => jCell_other y hy)
    refine va_iast cx.1.1 cx.1.2.1 cx.2.2.2.1 hP hD hS j 0 he rfl hin hd (fun H1 locs1 h1 h2 h3 => ?_)
    rw [hset] at h1 h2
    exact kk p l e s m args below meth c A D cA ad cx a ho H1 locs1 ls h1 h2 h3 hl
theorem J_alen {q n : Nat} {v : Int32} (hd : decode M.2.1 pc = .ok (.arraylength, 1)) (hI : jI Pl q = true) (hlen : jlen q = n) (hv : Int32.ofNat n = v) (kk : JF M d Pl emb (pc + 1) L (.int v :: st) μ o) : JF M d Pl emb pc L (.ref q :: st) μ o :=
  fun p l e s m args below meth c A D cA ad cx a ho H locs ls hP hD hS hl => by
    subst hlen; subst hv
    obtain ⟨j, hj, hs⟩ := jI_spec hI
    have he := jW_get (ad := ad) (cA := cA) (μ := μ) hj
    rw [jCell_I hs] at he
    exact va_alen cx.1.1 cx.1.2.1 cx.2.2.2.1 hP j 0 he rfl rfl hd (kk p l e s m args below meth c A D cA ad cx a ho H locs ls hP hD hS hl)
theorem J_alenQ {q t n : Nat} {v : Int32} {C : String} (hd : decode M.2.1 pc = .ok (.arraylength, 1)) (hI : jQr Pl q t = true) (ht : ∀ cA : Nat → ClassId, (jty cA)[t]? = some (cA t, .object C)) (hlen : jlen q = n) (hv : Int32.ofNat n = v) (kk : JF M d Pl emb (pc + 1) L (.int v :: st) μ o) : JF M d Pl emb pc L (.ref q :: st) μ o :=
  fun p l e s m args below meth c A D cA ad cx a ho H locs ls hP hD hS hl => by
    subst hlen; subst hv
    obtain ⟨j, y, hj, hs⟩ := jQr_spec hI
    have he := jW_get (ad := ad) (cA := cA) (μ := μ) hj
    rw [jCell_Q hs] at he
    have hz : jlen q = y.length := by unfold jlen; rw [hs]
    exact va_alen cx.1.1 cx.1.2.1 cx.2.2.2.1 hP j t he (ht cA) (by rw [hz]) hd (kk p l e s m args below meth c A D cA ad cx a ho H locs ls hP hD hS hl)
theorem J_aald {q t n j : Nat} {C : String} {i : Int32} (hd : decode M.2.1 pc = .ok (.aaload, 1)) (hI : jQr Pl q t = true) (ht : ∀ cA : Nat → ClassId, (jty cA)[t]? = some (cA t, .object C)) (hlen : jlen q = n) (hin : vp_in i n) (hjj : i.toNatClampNeg = j) (kk : JF M d Pl emb (pc + 1) L (jn (jel q j) :: st) μ o) : JF M d Pl emb pc L (.int i :: .ref q :: st) μ o :=
  fun p l e s m args below meth c A D cA ad cx a ho H locs ls hP hD hS hl => by
    subst hlen; subst hjj
    obtain ⟨j, y, hj, hs⟩ := jQr_spec hI
    have he := jW_get (ad := ad) (cA := cA) (μ := μ) hj
    rw [jCell_Q hs] at he
    have hz : jlen q = y.length := by unfold jlen; rw [hs]
    have hv : va_rf (((y[i.toNatClampNeg]?).getD none).map ad) = jv ad (jn (jel q i.toNatClampNeg)) := by
      unfold jel; rw [hs]
      simp only
      cases (y[i.toNatClampNeg]?).getD none <;> rfl
    refine va_aldq cx.1.1 cx.1.2.1 cx.2.2.2.1 hP j t he (ht cA) (by rw [← hz]; exact hin) hd ?_
    rw [hv]
    exact kk p l e s m args below meth c A D cA ad cx a ho H locs ls hP hD hS hl
theorem J_copy {p0 p1 idx : Nat} {sp dp n : Int32} (hd : decode M.2.1 pc = .ok (.invokestatic idx, 3)) (hlk : jWd (.methodLink M.2.2.2.2 idx arraycopyName)) (hw1 : jWd (.native arraycopyName)) (hw2 : jWd (.static arraycopyName)) (hw3 : jWd (.initialized "java/lang/System")) (hI0 : jI Pl p0 = true) (hI1 : jI Pl p1 = true) (h1 : ¬ sp < 0) (h2 : ¬ dp < 0) (h3 : ¬ n < 0) (h4 : sp.toNatClampNeg + n.toNatClampNeg ≤ jlen p0) (h5 : dp.toNatClampNeg + n.toNatClampNeg ≤ jlen p1) (hdd : 1 ≤ d) (hst : (st.map fun v => v.category).sum ≤ 8)
    (kk : JF M d Pl emb (pc + 3) L st (jcp μ p0 p1 sp.toNatClampNeg dp.toNatClampNeg n.toNatClampNeg) o) : JF M d Pl emb pc L (.int n :: .int dp :: .ref p1 :: .int sp :: .ref p0 :: st) μ o :=
  fun p l e s m args below meth c A D cA ad cx a ho H locs ls hP hD hS hl => by
    obtain ⟨j0, hj0, hs0⟩ := jI_spec hI0
    obtain ⟨j1, hj1, hs1⟩ := jI_spec hI1
    have he0 := jW_get (ad := ad) (cA := cA) (μ := μ) hj0
    rw [jCell_I hs0] at he0
    have he1 := jW_get (ad := ad) (cA := cA) (μ := μ) hj1
    rw [jCell_I hs1] at he1
    have hcat : ((st.map (jv ad)).map fun v => v.category).sum = (st.map fun v => v.category).sum := by
      rw [List.map_map]; congr 1; exact List.map_congr_left (fun v _ => jv_cat v)
    have hset := jW_set (ad := ad) (cA := cA) (μ := μ) cx.2.2.2.2.2.2 hj1 (jcp_I (p0 := p0) (sp := sp.toNatClampNeg) (dp := dp.toNatClampNeg) (n := n.toNatClampNeg) (ad := ad) (cA := cA) (μ := μ) hs1) (fun y hy => jcp_other y hy)
    refine va_copyi (ty := .int) cx.1.1 cx.1.2.1 (cx.1.2.2.1.trans hl.1.symm) cx.1.2.2.2 (cx.2.2.1.args hlk _) (cx.2.2.1.args hw1 _) (cx.2.2.1.args hw2 _) (cx.2.2.1.args hw3 _) cx.2.2.2.1 hP hD hS j0 j1 0 0 he0 he1 rfl rfl rfl h1 h2 h3 h4 h5 (fun _ _ => rfl) (by show 1 ≤ d; exact hdd) ?_ hd (fun H1 locs1 g1 g2 g3 => ?_)
    · show _ ≤ 40 * d
      rw [hcat]
      have : nativeFrameWords "java/lang/System" "arraycopy" 5 = 7 := by decide +kernel
      omega
    · rw [hset] at g1 g2
      exact kk p l e s m args below meth c A D cA ad cx a ho H1 locs1 ls g1 g2 g3 hl
theorem J_max {idx : Nat} {x y : Int32} (hd : decode M.2.1 pc = .ok (.invokestatic idx, 3)) (hlk : jWd (.methodLink M.2.2.2.2 idx Lib.Math.max.name)) (hw1 : jWd (.static Lib.Math.max.name)) (hw2 : jWd (.initialized "java/lang/Math")) (hw3 : jWd (.code Lib.Math.max.name Lib.Math.max.code 2 (some .int))) (hdd : 1 ≤ d) (hst : (st.map fun v => v.category).sum ≤ 8) (kk : JF M d Pl emb (pc + 3) L (.int (jmax x y) :: st) μ o) : JF M d Pl emb pc L (.int y :: .int x :: st) μ o :=
  fun p l e s m args below meth c A D cA ad cx a ho H locs ls hP hD hS hl => by
    have hcat : ((st.map (jv ad)).map fun v => v.category).sum = (st.map fun v => v.category).sum := by
      rw [List.map_map]; congr 1; exact List.map_congr_left (fun v _ => jv_cat v)
    exact va_mmax cx.1.1 cx.1.2.1 (cx.1.2.2.1.trans hl.1.symm) cx.1.2.2.2 (cx.2.2.1.args hlk _) (cx.2.2.1.args hw1 _) (cx.2.2.1.args hw2 _) (cx.2.2.1.args hw3 _) (by show 1 ≤ d; exact hdd) (by show _ ≤ 40 * d; rw [hcat]; omega) (Nat.le_refl _) (Nat.le_refl _) hd (kk p l e s m args below meth c A D cA ad cx a ho H locs ls hP hD hS hl)
theorem J_min {idx : Nat} {x y : Int32} (hd : decode M.2.1 pc = .ok (.invokestatic idx, 3)) (hlk : jWd (.methodLink M.2.2.2.2 idx Lib.Math.min.name)) (hw1 : jWd (.static Lib.Math.min.name)) (hw2 : jWd (.initialized "java/lang/Math")) (hw3 : jWd (.code Lib.Math.min.name Lib.Math.min.code 2 (some .int))) (hdd : 1 ≤ d) (hst : (st.map fun v => v.category).sum ≤ 8) (kk : JF M d Pl emb (pc + 3) L (.int (jmin x y) :: st) μ o) : JF M d Pl emb pc L (.int y :: .int x :: st) μ o :=
  fun p l e s m args below meth c A D cA ad cx a ho H locs ls hP hD hS hl => by
    have hcat : ((st.map (jv ad)).map fun v => v.category).sum = (st.map fun v => v.category).sum := by
      rw [List.map_map]; congr 1; exact List.map_congr_left (fun v _ => jv_cat v)
    exact va_mmin cx.1.1 cx.1.2.1 (cx.1.2.2.1.trans hl.1.symm) cx.1.2.2.2 (cx.2.2.1.args hlk _) (cx.2.2.1.args hw1 _) (cx.2.2.1.args hw2 _) (cx.2.2.1.args hw3 _) (by show 1 ≤ d; exact hdd) (by show _ ≤ 40 * d; rw [hcat]; omega) (Nat.le_refl _) (Nat.le_refl _) hd (kk p l e s m args below meth c A D cA ad cx a ho H locs ls hP hD hS hl)
-- statics
theorem J_getsA {idx : Nat} (hd : decode M.2.1 pc = .ok (.getstatic idx, 3)) (hlk : jWd (.fieldLink M.2.2.2.2 idx "MoonRooms" "ABOVE" "[I")) (kk : JF M d Pl emb (pc + 3) L (.ref 200 :: st) μ o) : JF M d Pl emb pc L st μ o :=
  fun p l e s m args below meth c A D cA ad cx a ho H locs ls hP hD hS hl => va_gets cx.1.1 cx.1.2.1 cx.2.2.2.2.2.1.1.1 hS cx.1.2.2.2 (cx.2.2.1.args hlk _) (fun _ h => h) hd (kk p l e s m args below meth c A D cA ad cx a ho H locs ls hP hD hS hl)
theorem J_getsAN {idx : Nat} {host : String} (hd : decode M.2.1 pc = .ok (.getstatic idx, 3)) (hlk : jWd (.fieldLinkNest M.2.2.2.2 idx "MoonRooms" "ABOVE" "[I" host)) (kk : JF M d Pl emb (pc + 3) L (.ref 200 :: st) μ o) : JF M d Pl emb pc L st μ o :=
  fun p l e s m args below meth c A D cA ad cx a ho H locs ls hP hD hS hl => va_getsN cx.1.1 cx.1.2.1 cx.2.2.2.2.2.1.1.1 hS cx.1.2.2.2 (cx.2.2.1.args hlk _) (fun _ h => h) hd (kk p l e s m args below meth c A D cA ad cx a ho H locs ls hP hD hS hl)
theorem J_getsB {idx : Nat} (hd : decode M.2.1 pc = .ok (.getstatic idx, 3)) (hlk : jWd (.fieldLink M.2.2.2.2 idx "MoonRooms$Speaker" "BODIES" "[I")) (kk : JF M d Pl emb (pc + 3) L (.ref 201 :: st) μ o) : JF M d Pl emb pc L st μ o :=
  fun p l e s m args below meth c A D cA ad cx a ho H locs ls hP hD hS hl => va_gets cx.1.1 cx.1.2.1 cx.2.2.2.2.2.1.2.1.1 hS cx.1.2.2.2 (cx.2.2.1.args hlk _) (fun _ h => h) hd (kk p l e s m args below meth c A D cA ad cx a ho H locs ls hP hD hS hl)
theorem J_ialdA {i : Int32} (hd : decode M.2.1 pc = .ok (.iaload, 1)) (hin : vp_in i 7) (kk : JF M d Pl emb (pc + 1) L (.int (jABOVE.getD i.toNatClampNeg 0) :: st) μ o) : JF M d Pl emb pc L (.int i :: .ref 200 :: st) μ o :=
  fun p l e s m args below meth c A D cA ad cx a ho H locs ls hP hD hS hl => va_ti cx.1.1 cx.1.2.1 cx.2.2.2.2.2.1.1.2 hS hin rfl hd (kk p l e s m args below meth c A D cA ad cx a ho H locs ls hP hD hS hl)
theorem J_ialdB {i : Int32} (hd : decode M.2.1 pc = .ok (.iaload, 1)) (hin : vp_in i 28) (kk : JF M d Pl emb (pc + 1) L (.int (jBODIES.getD i.toNatClampNeg 0) :: st) μ o) : JF M d Pl emb pc L (.int i :: .ref 201 :: st) μ o :=
  fun p l e s m args below meth c A D cA ad cx a ho H locs ls hP hD hS hl => va_ti cx.1.1 cx.1.2.1 cx.2.2.2.2.2.1.2.1.2 hS hin rfl hd (kk p l e s m args below meth c A D cA ad cx a ho H locs ls hP hD hS hl)
theorem J_alenA (hd : decode M.2.1 pc = .ok (.arraylength, 1)) (kk : JF M d Pl emb (pc + 1) L (.int 7 :: st) μ o) : JF M d Pl emb pc L (.ref 200 :: st) μ o :=
  fun p l e s m args below meth c A D cA ad cx a ho H locs ls hP hD hS hl => va_tlen cx.1.1 cx.1.2.1 cx.2.2.2.2.2.1.1.2 hS rfl hd (kk p l e s m args below meth c A D cA ad cx a ho H locs ls hP hD hS hl)
theorem J_alenB (hd : decode M.2.1 pc = .ok (.arraylength, 1)) (kk : JF M d Pl emb (pc + 1) L (.int 28 :: st) μ o) : JF M d Pl emb pc L (.ref 201 :: st) μ o :=
  fun p l e s m args below meth c A D cA ad cx a ho H locs ls hP hD hS hl => va_tlen cx.1.1 cx.1.2.1 cx.2.2.2.2.2.1.2.1.2 hS rfl hd (kk p l e s m args below meth c A D cA ad cx a ho H locs ls hP hD hS hl)
-- calls
def jE (as : List Value) : List (Option Value) := match as with
  | [] => []
  | v :: vs => if v.category = 2 then some v :: none :: jE vs else some v :: jE vs
theorem jE_len {ad : Nat → Nat} (as : List Value) : (lg_sl (as.map (jv ad))).length = (jE as).length := by
  induction as with
  | nil => rfl
  | cons v vs ih =>
    simp only [List.map_cons, lg_sl, List.flatMap_cons, List.length_append, jE, jv_cat] at ih ⊢
    by_cases h : v.category = 2
    · simp only [h, if_true, List.length_cons, List.length_nil]
      omega
    · simp only [h, if_false, List.length_cons, List.length_nil]
      omega
theorem jE_mem {ad : Nat → Nat} (as : List Value) : ∀ (n i : Nat) (v : Value), (jE as)[i]? = some (some v) → (n + i, jv ad v) ∈ lv_args n (as.map (jv ad)) := by
  induction as with
  | nil => intro n i v h; simp [jE] at h
  | cons w vs ih =>
    intro n i v h
    simp only [List.map_cons, lv_args, jv_cat]
    by_cases hc : w.category = 2
    · simp only [jE, hc, if_true] at h ⊢
      match i, h with
      | 0, h => simp only [List.getElem?_cons_zero, Option.some.injEq] at h; subst h; exact List.mem_cons_self
      | 1, h => simp at h
      | i + 2, h =>
        simp only [List.getElem?_cons_succ] at h
        have := ih (n + 2) i v h
        rw [show n + (i + 2) = n + 2 + i by omega]
        exact List.mem_cons_of_mem _ this
    · simp only [jE, hc, if_false] at h ⊢
      match i, h with
      | 0, h => simp only [List.getElem?_cons_zero, Option.some.injEq] at h; subst h; exact List.mem_cons_self
      | i + 1, h =>
        simp only [List.getElem?_cons_succ] at h
        have := ih (n + 1) i v h
        rw [show n + (i + 1) = n + 1 + i by omega]
        exact List.mem_cons_of_mem _ this
theorem jE_has {ad : Nat → Nat} {as : List Value} {k i : Nat} {v : Value} (h : (jE as ++ List.replicate k none)[i]? = some (some v)) : (i, jv ad v) ∈ lv_args 0 (as.map (jv ad)) := by
  by_cases hl : i < (jE as).length
  · rw [List.getElem?_append_left hl] at h
    have := jE_mem (ad := ad) as 0 i v h
    rwa [Nat.zero_add] at this
  · rw [List.getElem?_append_right (by omega), List.getElem?_replicate] at h
    split at h <;> simp at h
theorem JC_of {n : Nat} {as : List Value} {L0 : List (Option Value)} (hms : jMs M n) (hlen : (jE as).length ≤ M.2.2.1) (hL : L0 = jE as ++ List.replicate (M.2.2.1 - (jE as).length) none) (h : JF M d Pl emb 0 L0 [] μ o) : ∀ b, o = some b → JC M d Pl as μ (emb b) := by
  intro b hb l D cA ad A hn
  obtain ⟨-, -, ⟨hpl, -⟩, -, hown1⟩ := hms
  refine Met.ofW (cc := M.2.1) (maxL := M.2.2.1) (ret := M.2.2.2.1) hpl rfl ?_
  intro p e s m args below meth c s₁ B hml hv
  obtain ⟨rfl, hA, hP, hD, hK, hT, hSt⟩ := hv
  have hown : s.vm.findClass M.1.cls = some m.cls := findClass_of_methodNamed B.named
  have hl := lv_entry (as.map (jv ad)) (n := M.2.2.1) (by rw [jE_len]; exact hlen)
  rw [lg_entry_eq]
  generalize ((lg_sl (as.map (jv ad)) ++ List.replicate (M.2.2.1 - (lg_sl (as.map (jv ad))).length) Slot.unset).toArray) = ls at hl ⊢
  exact h p l e s m _ below meth c A D cA ad ⟨⟨B.exec, B.bytes, hml, by rw [hown1]; exact hown⟩, ⟨B.returns, B.notSynchronized⟩, hT, hK, hA, hSt, hn⟩ b hb s.heap [] ls hP hD va_S.rf ⟨hl.1, hl.2.1, fun i v hi => hl.2.2 (i, jv ad v) (jE_has (by rw [← hL]; exact hi))⟩
theorem J_run {p : Program} {l : Launch} {e : Env} {s : State} {m : MethodId} {args : Array Value} {below : List Frame} {meth : Method} {c : Code} {A : Nat → Prop} {D : va_G} {cA : Nat → ClassId} {ad : Nat → Nat} {H : Heap} {locs : List Loc} {ls : Array Slot} {st0 rest : List Value} {r : Option Value × JMu} {a : Array Value} {Q : State → Prop}
    (hr : va_Run p l e (jR d) s m args below meth c H locs 0 0 0 0 (F0 m pc ls st0) rest (jQ D cA ad Pl A r a) A) (hS : va_S A s.heap H locs)
    (kk : ∀ (H1 : Heap) (locs1 : List Loc), va_P D vwCl (jW ad cA r.2 Pl) H1 → va_S A s.heap H1 locs1 → W p l e (jR d) s m args below meth c H1 locs1 0 0 Q (F0 m (pc + 3) ls ((r.1.map (jv ad)).toList ++ rest))) : W p l e (jR d) s m args below meth c H locs 0 0 Q (F0 m pc ls st0) := by
  intro T hT X
  obtain ⟨v, st₀, t, T', L, h0, X', hL, e1, e2, ⟨⟨hv, hp⟩, hz, hk⟩, st⟩ := hr T hT X
  have hv' : v = r.1.map (jv ad) := by cases hv; rfl
  rw [hv'] at st
  rw [h0] at hz hk
  obtain ⟨t2, a1, b1⟩ := kk T'.heap (locs ++ L) (by rw [e1]; exact hp)
    ⟨Nat.le_trans hS.1 (by rw [e1]; exact hz), fun q h1 h2 => by rw [e1, hk q (Nat.lt_of_lt_of_le h1 hS.1) h2]; exact hS.2.1 q h1 h2, fun q hq => by
      rcases List.mem_append.mp hq with h | h
      · exact hS.2.2 q h
      · exact hL q h⟩ T' rfl X'
  exact ⟨t2, st t2 a1, b1⟩
theorem jcat {ad : Nat → Nat} (l : List Value) : ((l.map (jv ad)).map fun v => v.category).sum = (l.map fun v => v.category).sum := by
  rw [List.map_map]; congr 1; exact List.map_congr_left (fun v _ => jv_cat v)
theorem jtl {ad : Nat → Nat} (r : Option Value) (st : List Value) : (r.map (jv ad)).toList ++ st.map (jv ad) = (r.toList ++ st).map (jv ad) := by cases r <;> rfl
/-- what a callee asks of its start, at a caller's world -/
theorem jPre {M' : JM} {n : Nat} {p : Program} {s : State} {m : MethodId} {meth : Method} {c : Code} {A : Nat → Prop} {D : va_G} {cA : Nat → ClassId} {ad : Nat → Nat} {H : Heap} {locs : List Loc} {as : List Value} (cx : JCx M Pl p s m meth c A D cA ad) (hP : va_P D vwCl (jW ad cA μ Pl) H) (hD : va_D A (jW ad cA μ Pl)) (hS : va_S A s.heap H locs) :
    PreS s H (fun v U => v = (as.map (jv ad)).toArray ∧ (∀ q : Nat, U.heap.size ≤ q → A q) ∧ va_P D vwCl (jW ad cA μ Pl) U.heap ∧ va_D A (jW ad cA μ Pl) ∧ va_K D vwCl (jty cA) U ∧ jTW U ∧ jSt ad A U) (as.map (jv ad)) := by
  refine ⟨fun a U g mk q => ?_, fun U hU hW => ?_⟩
  · obtain ⟨h1, h2, h3, h4, h5, h6, h7⟩ := q
    refine ⟨h1, h2, h3, h4, va_K.moved (u := U) (U := U.calling g mk a) (Vm.Alike.refl U.vm) h5, ?_, ?_⟩
    · exact jTW.warm (s := U) (U := U.calling g mk a) h6 (State.WarmedH.refl U)
    · exact jSt.eq (s := U) (U := U.calling g mk a) h7 rfl (Vm.Alike.refl U.vm)
  · refine ⟨rfl, fun q h => cx.2.2.2.2.1 q (Nat.le_trans hS.1 (by rw [hU] at h; exact h)), by rw [hU]; exact hP, hD, va_K.moved hW.alike cx.2.2.2.1, cx.2.2.1.warm hW, cx.2.2.2.2.2.1.next hS hU hW⟩
theorem jCB {M' : JM} {d' n idx : Nat} {p : Program} {s : State} {m : MethodId} {args : Array Value} {meth : Method} {c : Code} {A : Nat → Prop} {D : va_G} {cA : Nat → ClassId} {ad : Nat → Nat} (cx : JCx M Pl p s m meth c A D cA ad) (hms : jMs M' n) (hlk : jWd (.methodLink M.2.2.2.2 idx M'.1)) (hdd : d' + 1 ≤ d) :
    CallB (jR d) s args M.2.2.2.2 idx M'.1 M'.2.1 M'.2.2.1 M'.2.2.2.1 [Cond.code M'.1 M'.2.1 M'.2.2.1 M'.2.2.2.1] (jR d') 0 0 n := by
  obtain ⟨h1, h2, ⟨-, h3, h4, h5⟩, h6, -⟩ := hms
  refine ⟨rfl, rfl, hdd, by show 8 + (M'.2.2.1 + 11) + 40 * d' ≤ 40 * d; omega, fun w hw a' U hW => ?_, List.mem_cons_self, cx.2.2.1.args h1 _, cx.2.2.1.args h2 _, ⟨h3, h4⟩, fun sig h => ?_, cx.2.2.1.args hlk _⟩
  · rw [List.mem_singleton.mp hw]
    exact (cx.2.2.1.warm hW).args h1 a'
  · rw [h] at h5
    exact (Option.some.inj h5).symm
theorem jCN {M' : JM} {d' n idx : Nat} {host : String} {p : Program} {s : State} {m : MethodId} {args : Array Value} {meth : Method} {c : Code} {A : Nat → Prop} {D : va_G} {cA : Nat → ClassId} {ad : Nat → Nat} (cx : JCx M Pl p s m meth c A D cA ad) (hms : jMs M' n) (hlk : jWd (.methodLinkNest M.2.2.2.2 idx M'.1 host)) (hdd : d' + 1 ≤ d) :
    va_CN (jR d) s args M.2.2.2.2 idx M'.1 host M'.2.1 M'.2.2.1 M'.2.2.2.1 [Cond.code M'.1 M'.2.1 M'.2.2.1 M'.2.2.2.1] (jR d') 0 0 n := by
  obtain ⟨h1, h2, ⟨-, h3, h4, h5⟩, h6, -⟩ := hms
  refine ⟨⟨rfl, rfl, hdd, by show 8 + (M'.2.2.1 + 11) + 40 * d' ≤ 40 * d; omega, fun w hw a' U hW => ?_, List.mem_cons_self⟩, cx.2.2.1.args h1 _, cx.2.2.1.args h2 _, ⟨h3, h4⟩, fun sig h => ?_, cx.2.2.1.args hlk _⟩
  · rw [List.mem_singleton.mp hw]
    exact (cx.2.2.1.warm hW).args h1 a'
  · rw [h] at h5
    exact (Option.some.inj h5).symm
theorem J_callS {β : Type} {M' : JM} {d' n idx : Nat} {as : List Value} {g : Option β} {emb' : β → Option Value × JMu} {κ : β → Option α} (hd : decode M.2.1 pc = .ok (.invokestatic idx, 3)) (hlk : jWd (.methodLink M.2.2.2.2 idx M'.1)) (hms : jMs M' n) (hw : jWd (.static M'.1)) (hdd : d' + 1 ≤ d) (hn : as.length = n) (hst : (st.map fun v => v.category).sum ≤ 8) (hg : ∀ b, g = some b → JC M' d' Pl as μ (emb' b)) (kk : ∀ b, JF M d Pl emb (pc + 3) L ((emb' b).1.toList ++ st) (emb' b).2 (κ b)) : JF M d Pl emb pc L (as.reverse ++ st) μ (g.bind κ) :=
  fun p l e s m args below meth c A D cA ad cx a ho H locs ls hP hD hS hl => by
    cases hgb : g with
    | none => rw [hgb] at ho; cases ho
    | some b =>
      rw [hgb] at ho
      refine J_run (r := emb' b) (rest := st.map (jv ad)) (va_runS (As := as.map (jv ad)) ⟨cx.1.1, cx.1.2.1, cx.1.2.2.1, cx.1.2.2.2, fun w h => absurd h List.not_mem_nil⟩ (hg b hgb l D cA ad A cx.2.2.2.2.2.2) ⟨jCB cx hms hlk hdd, cx.2.2.1.args hw _⟩ (jPre (M' := M') (n := n) cx hP hD hS) rfl (by rw [List.length_map]; exact hn) hl.1 (by simp [List.map_append, List.map_reverse]) (lv_room (by rw [jcat]; exact hst)) hd ⟨Nat.le_refl _, Nat.le_refl _⟩) hS (fun H1 locs1 g1 g2 => ?_)
      rw [jtl]
      exact kk b p l e s m args below meth c A D cA ad cx a ho H1 locs1 ls g1 (jW_D hD) g2 hl
theorem J_callSN {β : Type} {M' : JM} {d' n idx : Nat} {host : String} {as : List Value} {g : Option β} {emb' : β → Option Value × JMu} {κ : β → Option α} (hd : decode M.2.1 pc = .ok (.invokestatic idx, 3)) (hlk : jWd (.methodLinkNest M.2.2.2.2 idx M'.1 host)) (hms : jMs M' n) (hw : jWd (.static M'.1)) (hdd : d' + 1 ≤ d) (hn : as.length = n) (hst : (st.map fun v => v.category).sum ≤ 8) (hg : ∀ b, g = some b → JC M' d' Pl as μ (emb' b)) (kk : ∀ b, JF M d Pl emb (pc + 3) L ((emb' b).1.toList ++ st) (emb' b).2 (κ b)) : JF M d Pl emb pc L (as.reverse ++ st) μ (g.bind κ) :=
  fun p l e s m args below meth c A D cA ad cx a ho H locs ls hP hD hS hl => by
    cases hgb : g with
    | none => rw [hgb] at ho; cases ho
    | some b =>
      rw [hgb] at ho
      refine J_run (r := emb' b) (rest := st.map (jv ad)) (va_runSN (As := as.map (jv ad)) ⟨cx.1.1, cx.1.2.1, cx.1.2.2.1, cx.1.2.2.2, fun w h => absurd h List.not_mem_nil⟩ (hg b hgb l D cA ad A cx.2.2.2.2.2.2) ⟨jCN cx hms hlk hdd, cx.2.2.1.args hw _, trivial⟩ (jPre (M' := M') (n := n) cx hP hD hS) rfl (by rw [List.length_map]; exact hn) hl.1 (by simp [List.map_append, List.map_reverse]) (lv_room (by rw [jcat]; exact hst)) hd ⟨Nat.le_refl _, Nat.le_refl _⟩) hS (fun H1 locs1 g1 g2 => ?_)
      rw [jtl]
      exact kk b p l e s m args below meth c A D cA ad cx a ho H1 locs1 ls g1 (jW_D hD) g2 hl
theorem J_callV {β : Type} {M' : JM} {d' n idx q ci : Nat} {as : List Value} {g : Option β} {emb' : β → Option Value × JMu} {κ : β → Option α} (hd : decode M.2.1 pc = .ok (.invokevirtual idx, 3)) (hlk : jWd (.methodLink M.2.2.2.2 idx M'.1)) (hms : jMs M' n) (hw : jWd (.instanceMethod M'.1) ∧ jWd (.selects M'.1.cls M'.1 M'.1)) (hO : jO Pl q ci = true) (hci : ∃ (T : u_T) (N : Nat), vwCl[ci]? = some (M'.1.cls, T, N)) (hdd : d' + 1 ≤ d) (hn : as.length = n) (hst : (st.map fun v => v.category).sum ≤ 8) (hg : ∀ b, g = some b → JC M' d' Pl (.ref q :: as) μ (emb' b)) (kk : ∀ b, JF M d Pl emb (pc + 3) L ((emb' b).1.toList ++ st) (emb' b).2 (κ b)) : JF M d Pl emb pc L (as.reverse ++ .ref q :: st) μ (g.bind κ) :=
  fun p l e s m args below meth c A D cA ad cx a ho H locs ls hP hD hS hl => by
    cases hgb : g with
    | none => rw [hgb] at ho; cases ho
    | some b =>
      rw [hgb] at ho
      obtain ⟨i, fs, hi, hs, -⟩ := jO_spec hO
      have he := jW_get (ad := ad) (cA := cA) (μ := μ) hi
      rw [jCell_O hs] at he
      obtain ⟨T, N, hci⟩ := hci
      have hpre := jPre (M' := M') (n := n) (as := .ref q :: as) cx hP hD hS
      refine J_run (r := emb' b) (rest := st.map (jv ad)) (va_runV (C := M'.1.cls) (b := ad q) (As := as.map (jv ad)) ⟨cx.1.1, cx.1.2.1, cx.1.2.2.1, cx.1.2.2.2, fun w h => absurd h List.not_mem_nil⟩ (hg b hgb l D cA ad A cx.2.2.2.2.2.2) ⟨jCB cx hms hlk hdd, cx.2.2.1.args hw.1 _, cx.2.2.1.args hw.2 _⟩ ⟨hpre.1, va_recv cx.2.2.2.1 hP hci he, hpre.2⟩ rfl (by rw [List.length_map]; exact hn) hl.1 (by simp [List.map_append, List.map_reverse, jv]) (lv_room (by rw [jcat]; exact hst)) hd ⟨Nat.le_refl _, Nat.le_refl _⟩) hS (fun H1 locs1 g1 g2 => ?_)
      rw [jtl]
      exact kk b p l e s m args below meth c A D cA ad cx a ho H1 locs1 ls g1 (jW_D hD) g2 hl
theorem J_callVN {β : Type} {M' : JM} {d' n idx q ci : Nat} {host : String} {as : List Value} {g : Option β} {emb' : β → Option Value × JMu} {κ : β → Option α} (hd : decode M.2.1 pc = .ok (.invokevirtual idx, 3)) (hlk : jWd (.methodLinkNest M.2.2.2.2 idx M'.1 host)) (hms : jMs M' n) (hw : jWd (.instanceMethod M'.1) ∧ jWd (.selects M'.1.cls M'.1 M'.1)) (hO : jO Pl q ci = true) (hci : ∃ (T : u_T) (N : Nat), vwCl[ci]? = some (M'.1.cls, T, N)) (hdd : d' + 1 ≤ d) (hn : as.length = n) (hst : (st.map fun v => v.category).sum ≤ 8) (hg : ∀ b, g = some b → JC M' d' Pl (.ref q :: as) μ (emb' b)) (kk : ∀ b, JF M d Pl emb (pc + 3) L ((emb' b).1.toList ++ st) (emb' b).2 (κ b)) : JF M d Pl emb pc L (as.reverse ++ .ref q :: st) μ (g.bind κ) :=
  fun p l e s m args below meth c A D cA ad cx a ho H locs ls hP hD hS hl => by
    cases hgb : g with
    | none => rw [hgb] at ho; cases ho
    | some b =>
      rw [hgb] at ho
      obtain ⟨i, fs, hi, hs, -⟩ := jO_spec hO
      have he := jW_get (ad := ad) (cA := cA) (μ := μ) hi
      rw [jCell_O hs] at he
      obtain ⟨T, N, hci⟩ := hci
      have hpre := jPre (M' := M') (n := n) (as := .ref q :: as) cx hP hD hS
      refine J_run (r := emb' b) (rest := st.map (jv ad)) (va_runVN (C := M'.1.cls) (b := ad q) (As := as.map (jv ad)) ⟨cx.1.1, cx.1.2.1, cx.1.2.2.1, cx.1.2.2.2, fun w h => absurd h List.not_mem_nil⟩ (hg b hgb l D cA ad A cx.2.2.2.2.2.2) ⟨jCN cx hms hlk hdd, cx.2.2.1.args hw.1 _, cx.2.2.1.args hw.2 _⟩ ⟨hpre.1, va_recv cx.2.2.2.1 hP hci he, hpre.2⟩ rfl (by rw [List.length_map]; exact hn) hl.1 (by simp [List.map_append, List.map_reverse, jv]) (lv_room (by rw [jcat]; exact hst)) hd ⟨Nat.le_refl _, Nat.le_refl _⟩) hS (fun H1 locs1 g1 g2 => ?_)
      rw [jtl]
      exact kk b p l e s m args below meth c A D cA ad cx a ho H1 locs1 ls g1 (jW_D hD) g2 hl
theorem J_callS_i {M' : JM} {d' n idx : Nat}  {as : List Value} {g : Option Int32} {κ : Int32 → Option α} (hd : decode M.2.1 pc = .ok (.invokestatic idx, 3)) (hlk : jWd (.methodLink M.2.2.2.2 idx M'.1)) (hms : jMs M' n) (hw : jWd (.static M'.1)) (hdd : d' + 1 ≤ d) (hn : as.length = n) (hst : (st.map fun v => v.category).sum ≤ 8) (hg : ∀ b, g = some b → JC M' d' Pl as μ (some (.int b), μ)) (kk : ∀ v : Int32, JF M d Pl emb (pc + 3) L (.int v :: st) μ (κ v)) : JF M d Pl emb pc L (as.reverse ++ st) μ (g.bind κ) := J_callS (emb' := fun v => (some (.int v), μ)) hd hlk hms hw hdd hn hst hg kk
theorem J_callS_w {M' : JM} {d' n idx : Nat}  {as : List Value} {g : Option (Int32 × JMu)} {κ : (Int32 × JMu) → Option α} (hd : decode M.2.1 pc = .ok (.invokestatic idx, 3)) (hlk : jWd (.methodLink M.2.2.2.2 idx M'.1)) (hms : jMs M' n) (hw : jWd (.static M'.1)) (hdd : d' + 1 ≤ d) (hn : as.length = n) (hst : (st.map fun v => v.category).sum ≤ 8) (hg : ∀ b, g = some b → JC M' d' Pl as μ (some (.int b.1), b.2)) (kk : ∀ v : Int32 × JMu, JF M d Pl emb (pc + 3) L (.int v.1 :: st) v.2 (κ v)) : JF M d Pl emb pc L (as.reverse ++ st) μ (g.bind κ) := J_callS (emb' := fun q : Int32 × JMu => (some (.int q.1), q.2)) hd hlk hms hw hdd hn hst hg kk
theorem J_callS_v {M' : JM} {d' n idx : Nat}  {as : List Value} {g : Option JMu} {κ : JMu → Option α} (hd : decode M.2.1 pc = .ok (.invokestatic idx, 3)) (hlk : jWd (.methodLink M.2.2.2.2 idx M'.1)) (hms : jMs M' n) (hw : jWd (.static M'.1)) (hdd : d' + 1 ≤ d) (hn : as.length = n) (hst : (st.map fun v => v.category).sum ≤ 8) (hg : ∀ b, g = some b → JC M' d' Pl as μ (none, b)) (kk : ∀ v : JMu, JF M d Pl emb (pc + 3) L st v (κ v)) : JF M d Pl emb pc L (as.reverse ++ st) μ (g.bind κ) := J_callS (emb' := fun q => (none, q)) hd hlk hms hw hdd hn hst hg kk
theorem J_callS_q {M' : JM} {d' n idx : Nat}  {as : List Value} {g : Option (Option Nat)} {κ : (Option Nat) → Option α} (hd : decode M.2.1 pc = .ok (.invokestatic idx, 3)) (hlk : jWd (.methodLink M.2.2.2.2 idx M'.1)) (hms : jMs M' n) (hw : jWd (.static M'.1)) (hdd : d' + 1 ≤ d) (hn : as.length = n) (hst : (st.map fun v => v.category).sum ≤ 8) (hg : ∀ b, g = some b → JC M' d' Pl as μ (some (jn b), μ)) (kk : ∀ v : Option Nat, JF M d Pl emb (pc + 3) L (jn v :: st) μ (κ v)) : JF M d Pl emb pc L (as.reverse ++ st) μ (g.bind κ) := J_callS (emb' := fun q : Option Nat => (some (jn q), μ)) hd hlk hms hw hdd hn hst hg kk
theorem J_callSN_i {M' : JM} {d' n idx : Nat} {host : String} {as : List Value} {g : Option Int32} {κ : Int32 → Option α} (hd : decode M.2.1 pc = .ok (.invokestatic idx, 3)) (hlk : jWd (.methodLinkNest M.2.2.2.2 idx M'.1 host)) (hms : jMs M' n) (hw : jWd (.static M'.1)) (hdd : d' + 1 ≤ d) (hn : as.length = n) (hst : (st.map fun v => v.category).sum ≤ 8) (hg : ∀ b, g = some b → JC M' d' Pl as μ (some (.int b), μ)) (kk : ∀ v : Int32, JF M d Pl emb (pc + 3) L (.int v :: st) μ (κ v)) : JF M d Pl emb pc L (as.reverse ++ st) μ (g.bind κ) := J_callSN (emb' := fun v => (some (.int v), μ)) hd hlk hms hw hdd hn hst hg kk
theorem J_callSN_w {M' : JM} {d' n idx : Nat} {host : String} {as : List Value} {g : Option (Int32 × JMu)} {κ : (Int32 × JMu) → Option α} (hd : decode M.2.1 pc = .ok (.invokestatic idx, 3)) (hlk : jWd (.methodLinkNest M.2.2.2.2 idx M'.1 host)) (hms : jMs M' n) (hw : jWd (.static M'.1)) (hdd : d' + 1 ≤ d) (hn : as.length = n) (hst : (st.map fun v => v.category).sum ≤ 8) (hg : ∀ b, g = some b → JC M' d' Pl as μ (some (.int b.1), b.2)) (kk : ∀ v : Int32 × JMu, JF M d Pl emb (pc + 3) L (.int v.1 :: st) v.2 (κ v)) : JF M d Pl emb pc L (as.reverse ++ st) μ (g.bind κ) := J_callSN (emb' := fun q : Int32 × JMu => (some (.int q.1), q.2)) hd hlk hms hw hdd hn hst hg kk
theorem J_callSN_v {M' : JM} {d' n idx : Nat} {host : String} {as : List Value} {g : Option JMu} {κ : JMu → Option α} (hd : decode M.2.1 pc = .ok (.invokestatic idx, 3)) (hlk : jWd (.methodLinkNest M.2.2.2.2 idx M'.1 host)) (hms : jMs M' n) (hw : jWd (.static M'.1)) (hdd : d' + 1 ≤ d) (hn : as.length = n) (hst : (st.map fun v => v.category).sum ≤ 8) (hg : ∀ b, g = some b → JC M' d' Pl as μ (none, b)) (kk : ∀ v : JMu, JF M d Pl emb (pc + 3) L st v (κ v)) : JF M d Pl emb pc L (as.reverse ++ st) μ (g.bind κ) := J_callSN (emb' := fun q => (none, q)) hd hlk hms hw hdd hn hst hg kk
theorem J_callSN_q {M' : JM} {d' n idx : Nat} {host : String} {as : List Value} {g : Option (Option Nat)} {κ : (Option Nat) → Option α} (hd : decode M.2.1 pc = .ok (.invokestatic idx, 3)) (hlk : jWd (.methodLinkNest M.2.2.2.2 idx M'.1 host)) (hms : jMs M' n) (hw : jWd (.static M'.1)) (hdd : d' + 1 ≤ d) (hn : as.length = n) (hst : (st.map fun v => v.category).sum ≤ 8) (hg : ∀ b, g = some b → JC M' d' Pl as μ (some (jn b), μ)) (kk : ∀ v : Option Nat, JF M d Pl emb (pc + 3) L (jn v :: st) μ (κ v)) : JF M d Pl emb pc L (as.reverse ++ st) μ (g.bind κ) := J_callSN (emb' := fun q : Option Nat => (some (jn q), μ)) hd hlk hms hw hdd hn hst hg kk
theorem J_callV_i {M' : JM} {d' n idx q ci : Nat} {as : List Value} {g : Option Int32} {κ : Int32 → Option α} (hd : decode M.2.1 pc = .ok (.invokevirtual idx, 3)) (hlk : jWd (.methodLink M.2.2.2.2 idx M'.1)) (hms : jMs M' n) (hw : jWd (.instanceMethod M'.1) ∧ jWd (.selects M'.1.cls M'.1 M'.1)) (hO : jO Pl q ci = true) (hci : ∃ (T : u_T) (N : Nat), vwCl[ci]? = some (M'.1.cls, T, N)) (hdd : d' + 1 ≤ d) (hn : as.length = n) (hst : (st.map fun v => v.category).sum ≤ 8) (hg : ∀ b, g = some b → JC M' d' Pl (.ref q :: as) μ (some (.int b), μ)) (kk : ∀ v : Int32, JF M d Pl emb (pc + 3) L (.int v :: st) μ (κ v)) : JF M d Pl emb pc L (as.reverse ++ .ref q :: st) μ (g.bind κ) := J_callV (emb' := fun v => (some (.int v), μ)) hd hlk hms hw hO hci hdd hn hst hg kk
theorem J_callV_w {M' : JM} {d' n idx q ci : Nat} {as : List Value} {g : Option (Int32 × JMu)} {κ : (Int32 × JMu) → Option α} (hd : decode M.2.1 pc = .ok (.invokevirtual idx, 3)) (hlk : jWd (.methodLink M.2.2.2.2 idx M'.1)) (hms : jMs M' n) (hw : jWd (.instanceMethod M'.1) ∧ jWd (.selects M'.1.cls M'.1 M'.1)) (hO : jO Pl q ci = true) (hci : ∃ (T : u_T) (N : Nat), vwCl[ci]? = some (M'.1.cls, T, N)) (hdd : d' + 1 ≤ d) (hn : as.length = n) (hst : (st.map fun v => v.category).sum ≤ 8) (hg : ∀ b, g = some b → JC M' d' Pl (.ref q :: as) μ (some (.int b.1), b.2)) (kk : ∀ v : Int32 × JMu, JF M d Pl emb (pc + 3) L (.int v.1 :: st) v.2 (κ v)) : JF M d Pl emb pc L (as.reverse ++ .ref q :: st) μ (g.bind κ) := J_callV (emb' := fun q : Int32 × JMu => (some (.int q.1), q.2)) hd hlk hms hw hO hci hdd hn hst hg kk
theorem J_callV_v {M' : JM} {d' n idx q ci : Nat} {as : List Value} {g : Option JMu} {κ : JMu → Option α} (hd : decode M.2.1 pc = .ok (.invokevirtual idx, 3)) (hlk : jWd (.methodLink M.2.2.2.2 idx M'.1)) (hms : jMs M' n) (hw : jWd (.instanceMethod M'.1) ∧ jWd (.selects M'.1.cls M'.1 M'.1)) (hO : jO Pl q ci = true) (hci : ∃ (T : u_T) (N : Nat), vwCl[ci]? = some (M'.1.cls, T, N)) (hdd : d' + 1 ≤ d) (hn : as.length = n) (hst : (st.map fun v => v.category).sum ≤ 8) (hg : ∀ b, g = some b → JC M' d' Pl (.ref q :: as) μ (none, b)) (kk : ∀ v : JMu, JF M d Pl emb (pc + 3) L st v (κ v)) : JF M d Pl emb pc L (as.reverse ++ .ref q :: st) μ (g.bind κ) := J_callV (emb' := fun q => (none, q)) hd hlk hms hw hO hci hdd hn hst hg kk
theorem J_callV_q {M' : JM} {d' n idx q ci : Nat} {as : List Value} {g : Option (Option Nat)} {κ : (Option Nat) → Option α} (hd : decode M.2.1 pc = .ok (.invokevirtual idx, 3)) (hlk : jWd (.methodLink M.2.2.2.2 idx M'.1)) (hms : jMs M' n) (hw : jWd (.instanceMethod M'.1) ∧ jWd (.selects M'.1.cls M'.1 M'.1)) (hO : jO Pl q ci = true) (hci : ∃ (T : u_T) (N : Nat), vwCl[ci]? = some (M'.1.cls, T, N)) (hdd : d' + 1 ≤ d) (hn : as.length = n) (hst : (st.map fun v => v.category).sum ≤ 8) (hg : ∀ b, g = some b → JC M' d' Pl (.ref q :: as) μ (some (jn b), μ)) (kk : ∀ v : Option Nat, JF M d Pl emb (pc + 3) L (jn v :: st) μ (κ v)) : JF M d Pl emb pc L (as.reverse ++ .ref q :: st) μ (g.bind κ) := J_callV (emb' := fun q : Option Nat => (some (jn q), μ)) hd hlk hms hw hO hci hdd hn hst hg kk
theorem J_callS_r {M' : JM} {d' n idx : Nat}  {as : List Value} {g : Option Nat} {κ : Nat → Option α} (hd : decode M.2.1 pc = .ok (.invokestatic idx, 3)) (hlk : jWd (.methodLink M.2.2.2.2 idx M'.1)) (hms : jMs M' n) (hw : jWd (.static M'.1)) (hdd : d' + 1 ≤ d) (hn : as.length = n) (hst : (st.map fun v => v.category).sum ≤ 8) (hg : ∀ b, g = some b → JC M' d' Pl as μ (some (.ref b), μ)) (kk : ∀ v : Nat, JF M d Pl emb (pc + 3) L (.ref v :: st) μ (κ v)) : JF M d Pl emb pc L (as.reverse ++ st) μ (g.bind κ) := J_callS (emb' := fun q : Nat => (some (.ref q), μ)) hd hlk hms hw hdd hn hst hg kk
theorem J_callSN_r {M' : JM} {d' n idx : Nat} {host : String} {as : List Value} {g : Option Nat} {κ : Nat → Option α} (hd : decode M.2.1 pc = .ok (.invokestatic idx, 3)) (hlk : jWd (.methodLinkNest M.2.2.2.2 idx M'.1 host)) (hms : jMs M' n) (hw : jWd (.static M'.1)) (hdd : d' + 1 ≤ d) (hn : as.length = n) (hst : (st.map fun v => v.category).sum ≤ 8) (hg : ∀ b, g = some b → JC M' d' Pl as μ (some (.ref b), μ)) (kk : ∀ v : Nat, JF M d Pl emb (pc + 3) L (.ref v :: st) μ (κ v)) : JF M d Pl emb pc L (as.reverse ++ st) μ (g.bind κ) := J_callSN (emb' := fun q : Nat => (some (.ref q), μ)) hd hlk hms hw hdd hn hst hg kk
theorem J_callV_r {M' : JM} {d' n idx q ci : Nat} {as : List Value} {g : Option Nat} {κ : Nat → Option α} (hd : decode M.2.1 pc = .ok (.invokevirtual idx, 3)) (hlk : jWd (.methodLink M.2.2.2.2 idx M'.1)) (hms : jMs M' n) (hw : jWd (.instanceMethod M'.1) ∧ jWd (.selects M'.1.cls M'.1 M'.1)) (hO : jO Pl q ci = true) (hci : ∃ (T : u_T) (N : Nat), vwCl[ci]? = some (M'.1.cls, T, N)) (hdd : d' + 1 ≤ d) (hn : as.length = n) (hst : (st.map fun v => v.category).sum ≤ 8) (hg : ∀ b, g = some b → JC M' d' Pl (.ref q :: as) μ (some (.ref b), μ)) (kk : ∀ v : Nat, JF M d Pl emb (pc + 3) L (.ref v :: st) μ (κ v)) : JF M d Pl emb pc L (as.reverse ++ .ref q :: st) μ (g.bind κ) := J_callV (emb' := fun q : Nat => (some (.ref q), μ)) hd hlk hms hw hO hci hdd hn hst hg kk
end JR2

/-! THE J LAYER: the machine's judgement over ONE fixed object graph: all references stand still, only ints change.
 jSh p: what the cell at place p is (object of class ci with fields: none an int, some q a reference to place q; an int array of n; an array of references). μ p k: the int at field or index k of place p.
 JF M d Pl emb pc L st μ o: from pc with locals L, stack st, ints μ the method M comes to its end with what o says (emb), if o is some. A row an instruction. -/
def jv (ad : Nat → Nat) (v : Value) : Value := match v with
  | .ref p => .ref (ad p)
  | w => w
def jn (o : Option Nat) : Value := match o with
  | none => .null
  | some p => .ref p
def jfv (ad : Nat → Nat) (μ : JMu) (p k : Nat) (o : Option Nat) : Value := match o with
  | none => .int (μ p k)
  | some q => .ref (ad q)
def jCell (ad : Nat → Nat) (cA : Nat → ClassId) (μ : JMu) (p : Nat) : va_E := match jSh p with
  | .inl (ci, fs) => .inr (ci, fs.mapIdx (fun k o => jfv ad μ p k o))
  | .inr (.inl n) => .inl (cA 0, n, .inl (fun k => μ p k))
  | .inr (.inr (t, l)) => .inl (cA t, l.length, .inr (.inr (.inr (.inr (fun k => ((l[k]?).getD none).map ad)))))
def jW (ad : Nat → Nat) (cA : Nat → ClassId) (μ : JMu) (Pl : List Nat) : va_W := Pl.map (fun p => (ad p, jCell ad cA μ p))
def jty (cA : Nat → ClassId) : List (ClassId × FieldType) := [(cA 0, .int), (cA 1, .object "MoonRooms$Tenant"), (cA 2, .object "MoonRooms$Sheet"), (cA 3, .object "java/lang/String")]
def jR (d : Nat) : Room := { frames := d, cells := 0, slots := 0, locals := 40 * d }
-- the tables' words
def jGood (w : Cond) : Bool := (w.onTables && w.keeps) || (match w with
  | .arrayClass _ => true
  | .fieldLinkNest _ _ _ _ _ _ => true
  | .methodLinkNest _ _ _ _ => true
  | _ => false)
def jWd (w : Cond) : Prop := w ∈ lw_tbl ∧ jGood w = true
def jTW (s : State) : Prop := ∀ w : Cond, jWd w → w.before #[] s = true
theorem jTW.warm {s U : State} (h : jTW s) (hW : s.WarmedH U.vm) : jTW U := by
  intro w hw
  have h1 := h w hw
  have h2 := hw.2
  unfold jGood at h2
  rcases Bool.or_eq_true_iff.mp h2 with h3 | h3
  · exact word_at hW (Or.inl h3) h1
  · cases w <;> first | (cases h3; done) | exact word_at hW (Or.inr ⟨_, rfl⟩) h1 | exact va_Nw.warmF hW h1 | exact va_Nw.warmM hW h1
theorem jTW.args {s : State} (h : jTW s) {w : Cond} (hw : jWd w) (a : Array Value) : w.before a s = true := by
  have h1 := h w hw
  have h2 := hw.2
  unfold jGood at h2
  rcases Bool.or_eq_true_iff.mp h2 with h3 | h3
  · exact word_at (State.WarmedH.refl s) (Or.inl h3) h1
  · cases w <;> first | (cases h3; done) | exact word_at (State.WarmedH.refl s) (Or.inr ⟨_, rfl⟩) h1 | exact va_Nw.use rfl h1
theorem jTW.same {s U : State} (h : jTW s) (e : s.vm = U.vm) (hW : s.WarmedH U.vm) : jTW U := h.warm hW
/-- statics that nobody writes: their places are 200, 201 -/
def jSt (ad : Nat → Nat) (A : Nat → Prop) (s : State) : Prop :=
  (va_Z "MoonRooms" "ABOVE" "[I" (.ref (ad 200)) A s s.heap ∧ va_T .int (ad 200) 7 (fun j => .int (jABOVE.getD j 0)) A s s.heap) ∧
  (va_Z "MoonRooms$Speaker" "BODIES" "[I" (.ref (ad 201)) A s s.heap ∧ va_T .int (ad 201) 28 (fun j => .int (jBODIES.getD j 0)) A s s.heap) ∧
  va_Z "java/lang/String" "COMPACT_STRINGS" "Z" (.int 1) A s s.heap ∧
  (va_Z "jdk/internal/util/Preconditions" "SIOOBE_FORMATTER" "Ljava/util/function/BiFunction;" .null A s s.heap ∨ va_Z "jdk/internal/util/Preconditions" "SIOOBE_FORMATTER" "Ljava/util/function/BiFunction;" (.ref (ad 206)) A s s.heap) ∧
  vk_S 2 [3, 3] [[110, 112, 119], [114, 99, 113]] (fun i => ad (202 + i)) (fun i => ad (204 + i)) A s s.heap
theorem jSt.next {ad : Nat → Nat} {A : Nat → Prop} {s U : State} {H : Heap} {locs : List Loc} (h : jSt ad A s) (hS : va_S A s.heap H locs) (hU : U.heap = H) (hW : s.WarmedH U.vm) : jSt ad A U := by
  have hk : ∀ a : Nat, a < s.heap.size → ¬ A a → U.heap[a]? = s.heap[a]? := fun a h1 h2 => by rw [hU]; exact hS.2.1 a h1 h2
  obtain ⟨⟨h1, h2⟩, ⟨h3, h4⟩, h5, h6, h7⟩ := h
  exact ⟨⟨(h1.moved hW.alike).kept hk, (h2.moved hW.alike).kept hk⟩, ⟨(h3.moved hW.alike).kept hk, (h4.moved hW.alike).kept hk⟩, (h5.moved hW.alike).kept hk, h6.imp (fun q => (q.moved hW.alike).kept hk) (fun q => (q.moved hW.alike).kept hk), (h7.moved hW.alike).kept hk⟩
theorem jSt.eq {ad : Nat → Nat} {A : Nat → Prop} {s U : State} (h : jSt ad A s) (hU : U.heap = s.heap) (hW : s.vm.Alike U.vm) : jSt ad A U := by
  have hk : ∀ a : Nat, a < s.heap.size → ¬ A a → U.heap[a]? = s.heap[a]? := fun a _ _ => by rw [hU]
  obtain ⟨⟨h1, h2⟩, ⟨h3, h4⟩, h5, h6, h7⟩ := h
  exact ⟨⟨(h1.moved hW).kept hk, (h2.moved hW).kept hk⟩, ⟨(h3.moved hW).kept hk, (h4.moved hW).kept hk⟩, (h5.moved hW).kept hk, h6.imp (fun q => (q.moved hW).kept hk) (fun q => (q.moved hW).kept hk), (h7.moved hW).kept hk⟩
theorem jSt.narrow {ad : Nat → Nat} {A B : Nat → Prop} {s : State} (h : jSt ad A s) (hAB : ∀ q, B q → A q) : jSt ad B s := by
  obtain ⟨⟨h1, h2⟩, ⟨h3, h4⟩, h5, h6, h7⟩ := h
  exact ⟨⟨h1.narrow hAB, h2.narrow hAB⟩, ⟨h3.narrow hAB, h4.narrow hAB⟩, h5.narrow hAB, h6.imp (fun q => q.narrow hAB) (fun q => q.narrow hAB), h7.narrow hAB⟩
-- worlds
theorem jW_get {ad : Nat → Nat} {cA : Nat → ClassId} {μ : JMu} {Pl : List Nat} {p k : Nat} (h : Pl[k]? = some p) : (jW ad cA μ Pl)[k]? = some (ad p, jCell ad cA μ p) := by
  unfold jW; rw [List.getElem?_map, h]; rfl
theorem jPl_at {Pl : List Nat} {p : Nat} (h : Pl.contains p = true) : ∃ k : Nat, Pl[k]? = some p := List.getElem?_of_mem (List.contains_iff_mem.mp h)
theorem jW_set {ad : Nat → Nat} {cA : Nat → ClassId} {μ μ' : JMu} {Pl : List Nat} {p k : Nat} {x : va_E} (hn : va_nd Pl = true) (h : Pl[k]? = some p) (hx : x = jCell ad cA μ' p) (ho : ∀ q, q ≠ p → jCell ad cA μ' q = jCell ad cA μ q) : (jW ad cA μ Pl).set k (ad p, x) = jW ad cA μ' Pl := by
  apply List.ext_getElem?
  intro j
  by_cases hj : j = k
  · subst hj
    have hlt : j < (jW ad cA μ Pl).length := (List.getElem?_eq_some_iff.mp (jW_get (ad := ad) (cA := cA) (μ := μ) h)).1
    rw [List.getElem?_set_self hlt, jW_get h, hx]
  · rw [List.getElem?_set_ne (Ne.symm hj)]
    unfold jW
    rw [List.getElem?_map, List.getElem?_map]
    cases hq : Pl[j]? with
    | none => rfl
    | some q =>
      have hne : q ≠ p := by
        intro e
        subst e
        exact hj (va_nd_inj Pl hn j k q hq h)
      simp only [Option.map_some, ho q hne]
theorem jCell_other {ad : Nat → Nat} {cA : Nat → ClassId} {μ : JMu} {p k : Nat} {v : Int32} (q : Nat) (h : q ≠ p) : jCell ad cA (jup μ p k v) q = jCell ad cA μ q := by
  have e : ∀ j, jup μ p k v q j = μ q j := fun j => by simp [jup, h]
  unfold jCell
  cases hs : jSh q with
  | inl x =>
    obtain ⟨ci, fs⟩ := x
    simp only
    congr 2
    apply List.ext_getElem?
    intro j
    simp only [List.getElem?_mapIdx]
    cases fs[j]? with
    | none => rfl
    | some o => cases o <;> simp [jfv, e]
  | inr x =>
    cases x with
    | inl n => simp only [e]
    | inr y => rfl
theorem jW_D {ad : Nat → Nat} {cA : Nat → ClassId} {μ μ' : JMu} {Pl : List Nat} {A : Nat → Prop} (h : va_D A (jW ad cA μ Pl)) : va_D A (jW ad cA μ' Pl) := by
  have key : ∀ (k : Nat) (q : Nat × va_E), (jW ad cA μ' Pl)[k]? = some q → ∃ q', (jW ad cA μ Pl)[k]? = some q' ∧ q'.1 = q.1 := by
    intro k q hq
    unfold jW at hq ⊢
    rw [List.getElem?_map] at hq ⊢
    cases hp : Pl[k]? with
    | none => rw [hp] at hq; cases hq
    | some p => rw [hp] at hq; cases hq; exact ⟨_, rfl, rfl⟩
  refine ⟨fun i j x y hi hj hxy => ?_, fun k q hk => ?_⟩
  · obtain ⟨x', h1, h2⟩ := key i x hi
    obtain ⟨y', h3, h4⟩ := key j y hj
    exact h.1 i j x' y' h1 h3 (h2.trans (hxy.trans h4.symm))
  · obtain ⟨q', h1, h2⟩ := key k q hk
    rw [← h2]
    exact h.2 k q' h1
-- locals by their places
def jHas (ad : Nat → Nat) (ls : Array Slot) (nL : Nat) (L : List (Option Value)) : Prop := ls.size = nL ∧ lv_wf ls ∧ ∀ (i : Nat) (v : Value), L[i]? = some (some v) → ls[i]? = some (.val (jv ad v))
def jLa (ad : Nat → Nat) (L : List (Option Value)) : List (Nat × Value) := (List.range L.length).filterMap (fun i => match L[i]? with
  | some (some v) => some (i, jv ad v)
  | _ => none)
theorem jLa_mem {ad : Nat → Nat} {L : List (Option Value)} {i : Nat} {w : Value} : (i, w) ∈ jLa ad L ↔ ∃ v, L[i]? = some (some v) ∧ w = jv ad v := by
  unfold jLa
  rw [List.mem_filterMap]
  constructor
  · rintro ⟨k, hk, h⟩
    cases hL : L[k]? with
    | none => rw [hL] at h; cases h
    | some o =>
      rw [hL] at h
      cases o with
      | none => cases h
      | some v => cases h; exact ⟨v, hL, rfl⟩
  · rintro ⟨v, hv, rfl⟩
    exact ⟨i, List.mem_range.mpr (List.getElem?_eq_some_iff.mp hv).1, by rw [hv]⟩
theorem jHas.lv {ad : Nat → Nat} {ls : Array Slot} {nL : Nat} {L : List (Option Value)} (h : jHas ad ls nL L) : lv_has ls nL (jLa ad L) := by
  refine ⟨h.1, h.2.1, fun q hq => ?_⟩
  obtain ⟨i, w⟩ := q
  obtain ⟨v, h1, h2⟩ := jLa_mem.mp hq
  rw [h2]
  exact h.2.2 i v h1
/-- no long stands just ahead of a place -/
def jok (L : List (Option Value)) (i : Nat) : Bool := match i with
  | 0 => true
  | j + 1 => match L[j]? with
    | some (some v) => v.category == 1
    | _ => true
theorem jok_q {L : List (Option Value)} {i : Nat} {x : Option Nat} (h : L[i]? = some (some (jn x))) : jok L (i + 1) = true := by
  simp only [jok, h]
  cases x <;> rfl
theorem jv_cat {ad : Nat → Nat} (v : Value) : (jv ad v).category = v.category := by cases v <;> rfl
theorem jHas.store {ad : Nat → Nat} {ls ls' : Array Slot} {nL i : Nat} {L : List (Option Value)} {v : Value} (hk : jok L i = true) (h : jHas ad ls nL L) (h' : lv_has ls' nL ((i, jv ad v) :: (jLa ad L).filter (fun q => !(q.1 == i) && !(q.1 + 1 == i && q.2.category == 2)))) : jHas ad ls' nL (L.set i (some v)) := by
  refine ⟨h'.1, h'.2.1, fun j w hj => ?_⟩
  by_cases e : j = i
  · subst e
    have hlt : j < L.length := by
      have := (List.getElem?_eq_some_iff.mp hj).1
      simpa using this
    rw [List.getElem?_set_self hlt] at hj
    cases hj
    exact h'.2.2 (j, jv ad v) List.mem_cons_self
  · rw [List.getElem?_set_ne (Ne.symm e)] at hj
    refine h'.2.2 (j, jv ad w) (List.mem_cons_of_mem _ (List.mem_filter.mpr ⟨jLa_mem.mpr ⟨w, hj, rfl⟩, ?_⟩))
    have h2 : ¬ (j + 1 = i ∧ (jv ad w).category = 2) := by
      rintro ⟨q1, q2⟩
      subst q1
      simp only [jok, hj, beq_iff_eq] at hk
      rw [jv_cat] at q2
      omega
    simp only [Bool.and_eq_true, Bool.not_eq_true', beq_eq_false_iff_ne, ne_eq, Bool.and_eq_false_iff]
    refine ⟨e, ?_⟩
    by_cases q1 : j + 1 = i
    · exact Or.inr (fun q2 => h2 ⟨q1, q2⟩)
    · exact Or.inl q1

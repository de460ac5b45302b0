/-! THE ABSTRACT STATE: the check's row of 210 ints; a house that says the same -/
theorem ob {α β : Type} (a : α) (f : α → Option β) : Option.bind (some a) f = f a := rfl
theorem ltI {a b : Nat} (ha : a < 2 ^ 31) (hb : b < 2 ^ 31) : nI a < nI b ↔ a < b := nI_ltI ha hb
def up1 (A : Nat → Int32) (k : Nat) (v : Int32) : Nat → Int32 := fun j => if j = k then v else A j
theorem up1_self (A : Nat → Int32) (k : Nat) (v : Int32) : up1 A k v k = v := by simp [up1]
theorem up1_ne (A : Nat → Int32) {k j : Nat} (v : Int32) (h : j ≠ k) : up1 A k v j = A j := by simp [up1, h]
theorem up1_same {A : Nat → Int32} {k : Nat} {v : Int32} (h : A k = v) : up1 A k v = A := by
  funext j; by_cases e : j = k
  · subst e; simp [up1, h]
  · simp [up1, e]
theorem jup_rs (μ : JMu) (p k : Nat) (v : Int32) : jup μ p k v p = up1 (μ p) k v := by funext j; simp [jup, up1]
def nT (A : Nat → Int32) : Nat := (A 1).toNatClampNeg
def nB (A : Nat → Int32) : Nat := (A 3).toNatClampNeg
def nW (A : Nat → Int32) : Nat := (A 4).toNatClampNeg
def nN (A : Nat → Int32) : Nat := (A 0).toNatClampNeg
def cdL (A : Nat → Int32) (a : Nat) : List Nat := (List.range (A a).toNatClampNeg).map fun k => (A (a + 1 + k)).toNatClampNeg
/-- how deep the pile is after the codes; none: one of them finds too little -/
def dpl : List Nat → Nat → Option Nat
  | [], d => some d
  | t :: l, d => if t < 10003 then dpl l (d + 1) else if t = 20010 then (if d < 1 then none else dpl l d) else if 20000 ≤ t ∧ t < 20010 then (if d < 2 then none else dpl l (d - 1)) else none
theorem dpl_append : ∀ (l1 l2 : List Nat) (d : Nat), dpl (l1 ++ l2) d = (dpl l1 d).bind (dpl l2)
  | [], l2, d => rfl
  | t :: l1, l2, d => by
    simp only [List.cons_append, dpl]
    split
    · exact dpl_append l1 l2 (d + 1)
    · split
      · split
        · rfl
        · exact dpl_append l1 l2 d
      · split
        · split
          · rfl
          · exact dpl_append l1 l2 (d - 1)
        · rfl
def TXA (A : Nat → Int32) (a : Nat) (L : List Nat) : Prop := A a = nI L.length ∧ L.length ≤ 50 ∧ (∀ k, k < L.length → A (a + 1 + k) = nI (L.getD k 0) ∧ L.getD k 0 < 20011) ∧ (L = [] ∨ dpl L 0 = some 1)
def tokI (t : Nat) : Int32 := if t < 10000 then nI t else if t = 10000 then -1 else if t = 10001 then -2 else if t = 10002 then -3 else
  if t = 20000 then -124 else if t = 20001 then -38 else if t = 20002 then -60 else if t = 20003 then -61 else if t = 20004 then -62 else if t = 20005 then -43 else if t = 20006 then -45 else if t = 20007 then -42 else if t = 20008 then -47 else if t = 20009 then -37 else -33
def TXC (c : JMu) (p : Nat) (L : List Nat) : Prop := c p 1 = nI L.length ∧ ∀ k, k < L.length → c (p + 1) k = tokI (L.getD k 0)
theorem cdL_of {A : Nat → Int32} {a : Nat} {L : List Nat} (h : TXA A a L) : cdL A a = L := by
  obtain ⟨h1, h2, h3, -⟩ := h
  unfold cdL
  rw [h1, nI_clamp (by omega)]
  apply List.ext_getElem (by simp)
  intro k k1 k2
  simp only [List.getElem_map, List.getElem_range]
  obtain ⟨e, e2⟩ := h3 k k2
  rw [e, nI_clamp (by omega)]
  simp [List.getD, k2]
def GA (A : Nat → Int32) : Prop :=
  (∃ n, n ≤ 6 ∧ A 1 = nI n) ∧ (∃ n, n ≤ 50 ∧ A 3 = nI n) ∧ (∃ n, n ≤ 20 ∧ A 4 = nI n) ∧ (∃ n, n < 2 ^ 29 ∧ A 0 = nI n) ∧
  (∃ L, TXA A 106 L) ∧ (∃ L, TXA A 158 L) ∧
  (∀ t, t < nT A → (∃ k, k ≤ 6 ∧ A (6 + 5 * t) = nI k) ∧ (∃ x, x < 2 ^ 24 ∧ A (6 + 5 * t + 2) = nI x) ∧ (A (6 + 5 * t + 4) = 0 ∨ A (6 + 5 * t + 4) = 1) ∧ (∃ q, q ≤ 9 ∧ A (6 + 5 * t + 1) = nI q) ∧ (-9999 ≤ (A (6 + 5 * t + 3)).toInt ∧ (A (6 + 5 * t + 3)).toInt ≤ 9999)) ∧
  (∃ v, v ≤ 9 ∧ A 2 = nI v)
def HC (c : JMu) (h : Nat) (A : Nat → Int32) : Prop :=
  c h 0 = A 0 ∧ c h 1 = A 2 ∧ c h 2 = A 5 ∧ c h 3 = A 1 ∧
  (∀ t f, t < nT A → f < 5 → c (h + 2 + t) f = A (6 + 5 * t + f)) ∧
  c (h + 8) 1 = A 3 ∧ (∀ i, i < nB A → c (h + 9) i = A (36 + i)) ∧
  c (h + 10) 1 = A 4 ∧ (∀ i, i < nW A → c (h + 11) i = A (86 + i)) ∧
  c (h + 12) 0 = 0 ∧ TXC c (h + 13) (cdL A 106) ∧ c (h + 16) 0 = 1 ∧ TXC c (h + 17) (cdL A 158)
theorem g_n {A : Nat → Int32} (g : GA A) : A 1 = nI (nT A) ∧ nT A ≤ 6 := by
  obtain ⟨⟨n, h, e⟩, -⟩ := g
  unfold nT; rw [e, nI_clamp (by omega)]; exact ⟨rfl, h⟩
theorem g_b {A : Nat → Int32} (g : GA A) : A 3 = nI (nB A) ∧ nB A ≤ 50 := by
  obtain ⟨-, ⟨n, h, e⟩, -⟩ := g
  unfold nB; rw [e, nI_clamp (by omega)]; exact ⟨rfl, h⟩
theorem g_w {A : Nat → Int32} (g : GA A) : A 4 = nI (nW A) ∧ nW A ≤ 20 := by
  obtain ⟨-, -, ⟨n, h, e⟩, -⟩ := g
  unfold nW; rw [e, nI_clamp (by omega)]; exact ⟨rfl, h⟩
theorem g_0 {A : Nat → Int32} (g : GA A) : A 0 = nI (nN A) ∧ nN A < 2 ^ 29 := by
  obtain ⟨-, -, -, ⟨n, h, e⟩, -⟩ := g
  unfold nN; rw [e, nI_clamp (by omega)]; exact ⟨rfl, h⟩
theorem g_x0 {A : Nat → Int32} (g : GA A) : TXA A 106 (cdL A 106) := by
  obtain ⟨-, -, -, -, ⟨L, h⟩, -⟩ := g
  rw [cdL_of h]; exact h
theorem g_x1 {A : Nat → Int32} (g : GA A) : TXA A 158 (cdL A 158) := by
  obtain ⟨-, -, -, -, -, ⟨L, h⟩, -⟩ := g
  rw [cdL_of h]; exact h
theorem g_k {A : Nat → Int32} (g : GA A) {t : Nat} (h : t < nT A) : ∃ k, k ≤ 6 ∧ A (6 + 5 * t) = nI k := (g.2.2.2.2.2.2.1 t h).1
theorem g_l {A : Nat → Int32} (g : GA A) {t : Nat} (h : t < nT A) : ∃ x, x < 2 ^ 24 ∧ A (6 + 5 * t + 2) = nI x := (g.2.2.2.2.2.2.1 t h).2.1
theorem g_e {A : Nat → Int32} (g : GA A) {t : Nat} (h : t < nT A) : A (6 + 5 * t + 4) = 0 ∨ A (6 + 5 * t + 4) = 1 := (g.2.2.2.2.2.2.1 t h).2.2.1
theorem g_m {A : Nat → Int32} (g : GA A) {t : Nat} (h : t < nT A) : ∃ q, q ≤ 9 ∧ A (6 + 5 * t + 1) = nI q := (g.2.2.2.2.2.2.1 t h).2.2.2.1
theorem g_p {A : Nat → Int32} (g : GA A) {t : Nat} (h : t < nT A) : -9999 ≤ (A (6 + 5 * t + 3)).toInt ∧ (A (6 + 5 * t + 3)).toInt ≤ 9999 := (g.2.2.2.2.2.2.1 t h).2.2.2.2
-- frames
/-- only the house at h has changed -/
def eH (h : Nat) (c c' : JMu) : Prop := ∀ q, q < h ∨ h + 20 ≤ q → c' q = c q
/-- only the state and the scratch of the check have changed -/
def eM (m m' : JMu) : Prop := ∀ q, q ≠ 87 → q ≠ 93 → q ≠ 94 → m' q = m q
theorem eH_rf (h : Nat) (c : JMu) : eH h c c := fun _ _ => rfl
theorem eM_rf (m : JMu) : eM m m := fun _ _ _ _ => rfl
theorem eH_tr {h : Nat} {a b c : JMu} (x : eH h a b) (y : eH h b c) : eH h a c := fun q k => (y q k).trans (x q k)
theorem eM_tr {a b c : JMu} (x : eM a b) (y : eM b c) : eM a c := fun q k k2 k3 => (y q k k2 k3).trans (x q k k2 k3)
theorem eH_up {h p : Nat} (c : JMu) (k : Nat) (v : Int32) (h1 : h ≤ p) (h2 : p < h + 20) : eH h c (jup c p k v) := fun q hq => jup_row (by omega)
theorem eM_up (m : JMu) (k : Nat) (v : Int32) : eM m (jup m 87 k v) := fun q h _ _ => jup_row h
theorem eM_93 (m : JMu) (k : Nat) (v : Int32) : eM m (jup m 93 k v) := fun q _ h _ => jup_row h
theorem eM_94 (m : JMu) (k : Nat) (v : Int32) : eM m (jup m 94 k v) := fun q _ _ h => jup_row h
/-- rows of a house that are read -/
theorem HC_rows {c c' : JMu} {h : Nat} {A : Nat → Int32} (hc : HC c h A) (g : GA A) (e : ∀ q, q ≠ h + 15 → q ≠ h + 19 → c' q = c q) : HC c' h A := by
  obtain ⟨a1, a2, a3, a4, a5, a6, a7, a8, a9, a10, ⟨a11, a12⟩, a13, ⟨a14, a15⟩⟩ := hc
  have gn := (g_n g).2
  refine ⟨?_, ?_, ?_, ?_, ?_, ?_, ?_, ?_, ?_, ?_, ⟨?_, ?_⟩, ?_, ⟨?_, ?_⟩⟩
  any_goals (rw [e _ (by omega) (by omega)]; assumption)
  all_goals first
    | (intro i hi; rw [e _ (by omega) (by omega)]; first | exact a7 i hi | exact a9 i hi | exact a12 i hi | exact a15 i hi)
    | (intro t f ht hf; rw [e _ (by omega) (by omega)]; exact a5 t f ht hf)
theorem cdL_up {A : Nat → Int32} {k a : Nat} (v : Int32) (h : k < a) : cdL (up1 A k v) a = cdL A a := by
  unfold cdL
  rw [up1_ne A v (by omega)]
  apply List.map_congr_left
  intro j _
  rw [up1_ne A v (by omega)]
theorem nT_up (A : Nat → Int32) {k : Nat} (v : Int32) (h : k ≠ 1) : nT (up1 A k v) = nT A := by unfold nT; rw [up1_ne A v (by omega)]
theorem nB_up (A : Nat → Int32) {k : Nat} (v : Int32) (h : k ≠ 3) : nB (up1 A k v) = nB A := by unfold nB; rw [up1_ne A v (by omega)]
theorem nW_up (A : Nat → Int32) {k : Nat} (v : Int32) (h : k ≠ 4) : nW (up1 A k v) = nW A := by unfold nW; rw [up1_ne A v (by omega)]
theorem nN_up (A : Nat → Int32) {k : Nat} (v : Int32) (h : k ≠ 0) : nN (up1 A k v) = nN A := by unfold nN; rw [up1_ne A v (by omega)]
theorem HC_ten {c : JMu} {h : Nat} {A : Nat → Int32} (hc : HC c h A) (g : GA A) {t f : Nat} (ht : t < nT A) (hf : f < 5) (v : Int32) : HC (jup c (h + 2 + t) f v) h (up1 A (6 + 5 * t + f) v) := by
  have gn := (g_n g).2
  obtain ⟨a1, a2, a3, a4, a5, a6, a7, a8, a9, a10, ⟨a11, a12⟩, a13, ⟨a14, a15⟩⟩ := hc
  unfold HC TXC
  rw [nT_up _ _ (by omega), nB_up _ _ (by omega), nW_up _ _ (by omega), cdL_up _ (by omega), cdL_up _ (by omega)]
  refine ⟨?_, ?_, ?_, ?_, ?_, ?_, ?_, ?_, ?_, ?_, ⟨?_, ?_⟩, ?_, ⟨?_, ?_⟩⟩
  case refine_5 =>
    intro t' f' ht' hf'
    by_cases e : t' = t ∧ f' = f
    · obtain ⟨rfl, rfl⟩ := e
      rw [jup_self, up1_self]
    · rw [up1_ne _ _ (by omega)]
      by_cases e2 : t' = t
      · rw [e2, jup_col (by omega), ← e2]; exact a5 t' f' ht' hf'
      · rw [jup_row (by omega)]; exact a5 t' f' ht' hf'
  any_goals (rw [jup_row (by omega)]; (try rw [up1_ne _ _ (by omega)]); assumption)
  all_goals (intro i hi; rw [jup_row (by omega)]; (try rw [up1_ne _ _ (by omega)]))
  · exact a7 i hi
  · exact a9 i hi
theorem HC_hd {c : JMu} {h : Nat} {A : Nat → Int32} (hc : HC c h A) (g : GA A) {k a : Nat} (v : Int32) (hk : (k = 0 ∧ a = 0) ∨ (k = 1 ∧ a = 2) ∨ (k = 2 ∧ a = 5)) : HC (jup c h k v) h (up1 A a v) := by
  have gn := (g_n g).2
  obtain ⟨a1, a2, a3, a4, a5, a6, a7, a8, a9, a10, ⟨a11, a12⟩, a13, ⟨a14, a15⟩⟩ := hc
  unfold HC TXC
  rw [nT_up _ _ (by omega), nB_up _ _ (by omega), nW_up _ _ (by omega), cdL_up _ (by omega), cdL_up _ (by omega)]
  refine ⟨?_, ?_, ?_, ?_, ?_, ?_, ?_, ?_, ?_, ?_, ⟨?_, ?_⟩, ?_, ⟨?_, ?_⟩⟩
  · rcases hk with ⟨rfl, rfl⟩ | ⟨rfl, rfl⟩ | ⟨rfl, rfl⟩ <;> simp [jup, up1, a1]
  · rcases hk with ⟨rfl, rfl⟩ | ⟨rfl, rfl⟩ | ⟨rfl, rfl⟩ <;> simp [jup, up1, a2]
  · rcases hk with ⟨rfl, rfl⟩ | ⟨rfl, rfl⟩ | ⟨rfl, rfl⟩ <;> simp [jup, up1, a3]
  · rcases hk with ⟨rfl, rfl⟩ | ⟨rfl, rfl⟩ | ⟨rfl, rfl⟩ <;> simp [jup, up1, a4]
  · intro t f ht hf
    rw [jup_row (by omega), up1_ne _ _ (by omega)]; exact a5 t f ht hf
  any_goals (rw [jup_row (by omega)]; (try rw [up1_ne _ _ (by omega)]); assumption)
  all_goals (intro i hi; rw [jup_row (by omega)]; (try rw [up1_ne _ _ (by omega)]))
  · exact a7 i hi
  · exact a9 i hi
/-- the state stays a state -/
theorem TXA_up {A : Nat → Int32} {k a : Nat} {L : List Nat} (v : Int32) (h : TXA A a L) (hk : k < a) : TXA (up1 A k v) a L := by
  obtain ⟨h1, h2, h3, h4⟩ := h
  refine ⟨by rw [up1_ne _ _ (by omega)]; exact h1, h2, ?_, h4⟩
  intro j hj
  rw [up1_ne _ _ (by omega)]; exact h3 j hj
theorem GA_ten {A : Nat → Int32} (g : GA A) {t f : Nat} (ht : t < nT A) {v : Int32} (hf : (f = 0 ∧ ∃ k, k ≤ 6 ∧ v = nI k) ∨ (f = 1 ∧ ∃ q, q ≤ 9 ∧ v = nI q) ∨ (f = 2 ∧ ∃ x, x < 2 ^ 24 ∧ v = nI x) ∨ (f = 3 ∧ -9999 ≤ v.toInt ∧ v.toInt ≤ 9999) ∨ (f = 4 ∧ (v = 0 ∨ v = 1))) : GA (up1 A (6 + 5 * t + f) v) := by
  have gn := (g_n g).2
  have f5 : f < 5 := by omega
  obtain ⟨h1, h2, h3, h4, ⟨L0, h5⟩, ⟨L1, h6⟩, h7, h8⟩ := g
  unfold GA
  rw [nT_up _ _ (by omega)]
  refine ⟨by rw [up1_ne _ _ (by omega)]; exact h1, by rw [up1_ne _ _ (by omega)]; exact h2, by rw [up1_ne _ _ (by omega)]; exact h3, by rw [up1_ne _ _ (by omega)]; exact h4, ⟨L0, TXA_up v h5 (by omega)⟩, ⟨L1, TXA_up v h6 (by omega)⟩, ?_, by rw [up1_ne _ _ (by omega)]; exact h8⟩
  intro t' ht'
  obtain ⟨p1, p2, p3, p4, p5⟩ := h7 t' ht'
  refine ⟨?_, ?_, ?_, ?_, ?_⟩
  · by_cases e : 6 + 5 * t' = 6 + 5 * t + f
    · rw [e, up1_self]
      rcases hf with ⟨-, h⟩ | ⟨h, -⟩ | ⟨h, -⟩ | ⟨h, -⟩ | ⟨h, -⟩
      · exact h
      all_goals omega
    · rw [up1_ne _ _ e]; exact p1
  · by_cases e : 6 + 5 * t' + 2 = 6 + 5 * t + f
    · rw [e, up1_self]
      rcases hf with ⟨h, -⟩ | ⟨h, -⟩ | ⟨-, h⟩ | ⟨h, -⟩ | ⟨h, -⟩
      · omega
      · omega
      · exact h
      all_goals omega
    · rw [up1_ne _ _ e]; exact p2
  · by_cases e : 6 + 5 * t' + 4 = 6 + 5 * t + f
    · rw [e, up1_self]
      rcases hf with ⟨h, -⟩ | ⟨h, -⟩ | ⟨h, -⟩ | ⟨h, -⟩ | ⟨-, h⟩
      · omega
      · omega
      · omega
      · omega
      · exact h
    · rw [up1_ne _ _ e]; exact p3
  · by_cases e : 6 + 5 * t' + 1 = 6 + 5 * t + f
    · rw [e, up1_self]
      rcases hf with ⟨h, -⟩ | ⟨-, h⟩ | ⟨h, -⟩ | ⟨h, -⟩ | ⟨h, -⟩
      · omega
      · exact h
      all_goals omega
    · rw [up1_ne _ _ e]; exact p4
  · by_cases e : 6 + 5 * t' + 3 = 6 + 5 * t + f
    · rw [e, up1_self]
      rcases hf with ⟨h, -⟩ | ⟨h, -⟩ | ⟨h, -⟩ | ⟨-, h⟩ | ⟨h, -⟩
      · omega
      · omega
      · omega
      · exact h
      · omega
    · rw [up1_ne _ _ e]; exact p5
theorem GA_hd {A : Nat → Int32} (g : GA A) {a : Nat} {v : Int32} (hk : (a = 0 ∧ ∃ n, n < 2 ^ 29 ∧ v = nI n) ∨ (a = 2 ∧ ∃ n, n ≤ 9 ∧ v = nI n) ∨ a = 5) : GA (up1 A a v) := by
  have gn := (g_n g).2
  obtain ⟨h1, h2, h3, h4, ⟨L0, h5⟩, ⟨L1, h6⟩, h7, h8⟩ := g
  unfold GA
  rw [nT_up _ _ (by omega)]
  refine ⟨by rw [up1_ne _ _ (by omega)]; exact h1, by rw [up1_ne _ _ (by omega)]; exact h2, by rw [up1_ne _ _ (by omega)]; exact h3, ?_, ⟨L0, TXA_up v h5 (by omega)⟩, ⟨L1, TXA_up v h6 (by omega)⟩, ?_, ?_⟩
  · rcases hk with ⟨rfl, h⟩ | ⟨rfl, -⟩ | rfl
    · rw [up1_self]; exact h
    · rw [up1_ne _ _ (by omega)]; exact h4
    · rw [up1_ne _ _ (by omega)]; exact h4
  · intro t ht
    rw [up1_ne _ _ (by omega), up1_ne _ _ (by omega), up1_ne _ _ (by omega), up1_ne _ _ (by omega), up1_ne _ _ (by omega)]
    exact h7 t ht
  · rcases hk with ⟨rfl, h⟩ | ⟨rfl, h⟩ | rfl
    · rw [up1_ne _ _ (by omega)]; exact h8
    · rw [up1_self]; exact h
    · rw [up1_ne _ _ (by omega)]; exact h8
/-- the tenants found -/
theorem find_in {h n t : Nat} {c : JMu} (hh : jH h) (hn : c h 3 = nI n) (h6 : n ≤ 6) (ht : t < n) : f0_find h (nI t) c = some (some (h + 2 + t)) := by
  obtain ⟨e1, e2⟩ := hs_el hh t (by omega)
  unfold f0_find
  rw [if_pos (hs_obj hh), if_neg (nI_pos (by omega)), hn, if_neg (by rw [nI_leI (by omega) (by omega)]; omega), (hs_rf hh).1, if_pos (hs_all hh).1, (hs_all hh).2,
    if_pos (by show nI t < nI 6; rw [ltI (by omega) (by omega)]; omega), if_pos (jin_nI (by omega) (by omega)), nI_clamp (by omega), e1]
theorem find_out {h n : Nat} {c : JMu} {x : Int32} (hh : jH h) (hn : c h 3 = nI n) (h6 : n ≤ 6) (hx : x < 0 ∨ nI n ≤ x) : f0_find h x c = some none := by
  unfold f0_find
  rw [if_pos (hs_obj hh)]
  by_cases e : x < 0
  · rw [if_pos e]
  · rw [if_neg e, hn, if_pos (by rcases hx with h | h; exact absurd h e; exact h)]
/-- a tenant's number: one of them, or beyond -/
theorem t_two {A : Nat → Int32} (g : GA A) (x : Int32) : (x < 0 ∨ A 1 - 1 < x) ∧ (x < 0 ∨ nI (nT A) ≤ x) ∨ ∃ t, t < nT A ∧ x = nI t ∧ ¬ (x < 0 ∨ A 1 - 1 < x) := by
  obtain ⟨g1, g2⟩ := g_n g
  rw [g1]
  rcases pk_ix x (n := nT A) (by omega) with h | h | ⟨t, h, rfl⟩
  · exact Or.inl ⟨Or.inl h, Or.inl h⟩
  · refine Or.inl ⟨Or.inr ?_, Or.inr h⟩
    rw [fa_lt, fb_subI (by rw [nI_toInt (by omega)]; show _ ≤ _ - 1; omega) (by rw [nI_toInt (by omega)]; show _ - 1 < _; omega), nI_toInt (by omega)]
    rw [fa_le, nI_toInt (by omega)] at h
    show _ - 1 < _; omega
  · refine Or.inr ⟨t, h, rfl, ?_⟩
    rintro (q | q)
    · exact nI_pos (by omega) q
    · rw [fa_lt, fb_subI (by rw [nI_toInt (by omega)]; show _ ≤ _ - 1; omega) (by rw [nI_toInt (by omega)]; show _ - 1 < _; omega), nI_toInt (by omega), nI_toInt (by omega)] at q
      have : (1 : Int32).toInt = 1 := rfl
      omega

/-! THE READER: class and check read a text alike -/
-- the tape's bytes B, how many N; the use u; the bases c0, m0
def hrB (B : Nat → Int32) (N p : Nat) : Int32 := if p < N then B p else -1
def TP (c0 m0 : JMu) (B : Nat → Int32) (N u : Nat) : Prop := N ≤ 50 ∧ u ≤ 1 ∧ c0 62 1 = nI N ∧ (∀ i, i < N → c0 63 i = B i) ∧ c0 61 2 = nI u ∧ m0 87 3 = nI N ∧ (∀ i, i < N → m0 87 (36 + i) = B i) ∧ m0 86 8 = nI u
def FC (c0 c : JMu) : Prop := (∀ q, q ≠ 61 → q ≠ 64 → q ≠ 65 → c q = c0 q) ∧ (∀ j, j ≠ 3 → c 61 j = c0 61 j)
def FM (m0 m : JMu) : Prop := (∀ q, q ≠ 86 → q ≠ 92 → m q = m0 q) ∧ (∀ j, j ≠ 6 → j ≠ 7 → j ≠ 9 → j ≠ 11 → m 86 j = m0 86 j)
def PC (c0 c : JMu) (p : Nat) (L : List Nat) : Prop := FC c0 c ∧ c 61 3 = nI p ∧ c 64 1 = nI L.length ∧ L.length ≤ 50 ∧ ∀ k, k < L.length → c 65 k = tokI (L.getD k 0)
def PM (m0 m : JMu) (o p : Nat) (L : List Nat) : Prop := FM m0 m ∧ m 86 6 = nI p ∧ m 86 7 = nI o ∧ m 86 9 = 0 ∧ m 86 11 = nI L.length ∧ ∀ k, k < L.length → m 92 k = nI (L.getD k 0) ∧ L.getD k 0 < 20011
def BC (c0 c : JMu) (p : Nat) : Prop := FC c0 c ∧ c 61 3 = nI p ∧ ∃ s, s ≤ 50 ∧ c 64 1 = nI s
def BM (m0 m : JMu) (p : Nat) : Prop := FM m0 m ∧ m 86 6 = nI p ∧ m 86 9 = 1
def OKL (L : List Nat) : Prop := ∀ d, dpl L d = some (d + 1)
theorem FC_3 {c0 c : JMu} (h : FC c0 c) (v : Int32) : FC c0 (jup c 61 3 v) := ⟨fun q h1 h2 h3 => by rw [jup_row h1]; exact h.1 q h1 h2 h3, fun j hj => by rw [jup_col hj]; exact h.2 j hj⟩
theorem FC_64 {c0 c : JMu} (h : FC c0 c) (k : Nat) (v : Int32) : FC c0 (jup c 64 k v) := ⟨fun q h1 h2 h3 => by rw [jup_row h2]; exact h.1 q h1 h2 h3, fun j hj => by rw [jup_row (by omega)]; exact h.2 j hj⟩
theorem FC_65 {c0 c : JMu} (h : FC c0 c) (k : Nat) (v : Int32) : FC c0 (jup c 65 k v) := ⟨fun q h1 h2 h3 => by rw [jup_row h3]; exact h.1 q h1 h2 h3, fun j hj => by rw [jup_row (by omega)]; exact h.2 j hj⟩
theorem FM_86 {m0 m : JMu} (h : FM m0 m) {k : Nat} (hk : k = 6 ∨ k = 7 ∨ k = 9 ∨ k = 11) (v : Int32) : FM m0 (jup m 86 k v) := ⟨fun q h1 h2 => by rw [jup_row h1]; exact h.1 q h1 h2, fun j h1 h2 h3 h4 => by rw [jup_col (by omega)]; exact h.2 j h1 h2 h3 h4⟩
theorem FM_92 {m0 m : JMu} (h : FM m0 m) (k : Nat) (v : Int32) : FM m0 (jup m 92 k v) := ⟨fun q h1 h2 => by rw [jup_row h2]; exact h.1 q h1 h2, fun j h1 h2 h3 h4 => by rw [jup_row (by omega)]; exact h.2 j h1 h2 h3 h4⟩
theorem getD_app (L : List Nat) (t k : Nat) (h : k < (L ++ [t]).length) : (L ++ [t]).getD k 0 = if k = L.length then t else L.getD k 0 := by
  by_cases e : k = L.length
  · subst e; simp
  · rw [if_neg e]
    have : k < L.length := by simp at h; omega
    simp [List.getD, List.getElem?_append_left this]
-- the class's steps
theorem hereC {c0 m0 c : JMu} {B : Nat → Int32} {N u p : Nat} (t : TP c0 m0 B N u) (f : FC c0 c) (h3 : c 61 3 = nI p) (hp : p ≤ 50) : f2_here c = some (hrB B N p) := by
  obtain ⟨tN, tu, t1, t2, -⟩ := t
  have e1 : c 62 1 = nI N := by rw [f.1 62 (by omega) (by omega) (by omega)]; exact t1
  obtain ⟨a1, a2, a3, a4⟩ := rs_62
  unfold f2_here hrB
  rw [h3]
  by_cases q : p < N
  · have hh : f3_has 62 (nI p) c = some 1 := by
      unfold f3_has
      rw [if_pos a1, if_neg (nI_pos (by omega)), e1, if_neg (by rw [nI_leI (by omega) (by omega)]; omega), a2, if_pos a3, a4, if_neg (by show ¬ nI 50 ≤ _; rw [nI_leI (by omega) (by omega)]; omega)]
    rw [hh, ob, if_neg i10, get_in rs_62 (by omega) e1 q tN, ob, f.1 (62 + 1) (by omega) (by omega) (by omega), if_pos q, t2 p q]
  · have hh : f3_has 62 (nI p) c = some 0 := by
      unfold f3_has
      rw [if_pos a1, if_neg (nI_pos (by omega)), e1, if_pos (by rw [nI_leI (by omega) (by omega)]; omega)]
    rw [hh, ob, if_pos rfl, if_neg q]
theorem PC_up {c0 c : JMu} {p : Nat} {L : List Nat} (h : PC c0 c p L) : PC c0 (jup c 61 3 (c 61 3 + 1)) (p + 1) L := by
  obtain ⟨f, h1, h2, h3, h4⟩ := h
  refine ⟨FC_3 f _, by rw [jup_self, h1, nI_1], by rw [jup_row (by omega)]; exact h2, h3, by rw [jup_row (by omega)]; exact h4⟩
theorem PC_add {c0 c : JMu} {p : Nat} {L : List Nat} (h : PC c0 c p L) (t : Nat) (hL : L.length < 50) : ∃ b c', f3_add 64 (tokI t) c = some (b, c') ∧ PC c0 c' p (L ++ [t]) := by
  obtain ⟨f, h1, h2, h3, h4⟩ := h
  refine ⟨_, _, add_in rs_64 (by omega) h2 hL _, FC_64 (FC_65 f _ _) _ _, by rw [jup_row (by omega), jup_row (by omega)]; exact h1, by rw [jup_self]; simp, by simp; omega, ?_⟩
  intro k hk
  rw [jup_row (by omega), getD_app L t k hk, jup_at]
  by_cases e : k = L.length
  · rw [if_pos e, if_pos e]
  · rw [if_neg e, if_neg e]; exact h4 k (by simp at hk; omega)
theorem BC_add {c0 c : JMu} {p : Nat} (h : BC c0 c p) (v : Int32) : ∃ b c', f3_add 64 v c = some (b, c') ∧ BC c0 c' p := by
  obtain ⟨f, h1, s, s1, s2⟩ := h
  by_cases e : s = 50
  · subst e; exact ⟨_, _, add_out rs_64 (by omega) s2 v, f, h1, 50, by omega, s2⟩
  · exact ⟨_, _, add_in rs_64 (by omega) s2 (by omega) v, FC_64 (FC_65 f _ _) _ _, by rw [jup_row (by omega), jup_row (by omega)]; exact h1, s + 1, by omega, by rw [jup_self]⟩
theorem PC_bad {c0 c : JMu} {p : Nat} {L : List Nat} (h : PC c0 c p L) : BC c0 c p := ⟨h.1, h.2.1, L.length, h.2.2.2.1, h.2.2.1⟩
-- the check's steps
theorem hereM {c0 m0 m : JMu} {B : Nat → Int32} {N u o p : Nat} {L : List Nat} (t : TP c0 m0 B N u) (h : PM m0 m o p L) (hp : p ≤ 50) : f9_here m = some (hrB B N p) := by
  obtain ⟨tN, tu, -, -, -, t1, t2, -⟩ := t
  obtain ⟨f, h6, h7, h9, h11, hc⟩ := h
  unfold f9_here hrB
  rw [h9, if_pos rfl, h6, f.1 87 (by omega) (by omega), t1]
  by_cases q : p < N
  · rw [if_neg (by rw [nI_leI (by omega) (by omega)]; omega), show (36 : Int32) = nI 36 from rfl, nI_add, if_pos (jin_nI (by omega) (by omega)), nI_clamp (by omega), if_pos q, t2 p q]
  · rw [if_pos (by rw [nI_leI (by omega) (by omega)]; omega), if_neg q]
theorem hereB {m0 m : JMu} {p : Nat} (h : BM m0 m p) : f9_here m = some (-1) := by
  unfold f9_here
  rw [h.2.2, if_neg i10]
theorem takes_st (m : JMu) (b : Bool) : f9_takes_b13 (if b then 1 else 0) m = some (if b then 1 else 0, jup m 86 6 (m 86 6 + (if b then 1 else 0))) := by
  unfold f9_takes_b13 f9_takes_b28
  cases b
  · rfl
  · rfl
theorem takesM {c0 m0 m : JMu} {B : Nat → Int32} {N u o p : Nat} {L : List Nat} (t : TP c0 m0 B N u) (h : PM m0 m o p L) (hp : p ≤ 50) (x : Int32) (hx : x ≠ -1) :
    (hrB B N p = x ∧ p < N ∧ ∃ m', f9_takes x m = some (1, m') ∧ PM m0 m' o (p + 1) L) ∨ (hrB B N p ≠ x ∧ ∃ m', f9_takes x m = some (0, m') ∧ PM m0 m' o p L) := by
  have hh := hereM t h hp
  obtain ⟨f, h6, h7, h9, h11, hc⟩ := h
  unfold f9_takes
  rw [hh, ob]
  by_cases e : hrB B N p = x
  · have pN : p < N := by
      apply Classical.byContradiction
      intro q
      unfold hrB at e
      rw [if_neg q] at e
      exact hx e.symm
    refine Or.inl ⟨e, pN, _, by rw [if_pos e]; exact takes_st m true, FM_86 f (by omega) _, ?_, ?_, ?_, ?_, ?_⟩
    · rw [jup_self, h6]; exact nI_1 p
    · rw [jup_col (by omega)]; exact h7
    · rw [jup_col (by omega)]; exact h9
    · rw [jup_col (by omega)]; exact h11
    · rw [jup_row (by omega)]; exact hc
  · refine Or.inr ⟨e, _, by rw [if_neg e]; exact takes_st m false, FM_86 f (by omega) _, ?_, ?_, ?_, ?_, ?_⟩
    · rw [jup_self, h6]; exact add0 _
    · rw [jup_col (by omega)]; exact h7
    · rw [jup_col (by omega)]; exact h9
    · rw [jup_col (by omega)]; exact h11
    · rw [jup_row (by omega)]; exact hc
theorem takesB {m0 m : JMu} {p : Nat} (h : BM m0 m p) (x : Int32) (hx : x ≠ -1) : ∃ m', f9_takes x m = some (0, m') ∧ BM m0 m' p := by
  have hh := hereB h
  obtain ⟨f, h6, h9⟩ := h
  unfold f9_takes
  rw [hh, ob, if_neg (fun e => hx e.symm)]
  refine ⟨_, takes_st m false, FM_86 f (by omega) _, ?_, ?_⟩
  · rw [jup_self, h6]; exact add0 _
  · rw [jup_col (by omega)]; exact h9
theorem codesM {m0 m : JMu} {o p : Nat} {L : List Nat} (h : PM m0 m o p L) (t : Nat) (ht : t < 20011) (hL : L.length < 60) : ∃ m', f9_codes (nI t) m = some m' ∧ PM m0 m' o p (L ++ [t]) := by
  obtain ⟨f, h6, h7, h9, h11, hc⟩ := h
  unfold f9_codes
  rw [h9, if_pos rfl, h11, if_pos (jin_nI hL (by omega)), nI_clamp (by omega), jup_row (by omega), h11, nI_1]
  refine ⟨_, rfl, FM_86 (FM_92 f _ _) (by omega) _, ?_, ?_, ?_, ?_, ?_⟩
  · rw [jup_col (by omega), jup_row (by omega)]; exact h6
  · rw [jup_col (by omega), jup_row (by omega)]; exact h7
  · rw [jup_col (by omega), jup_row (by omega)]; exact h9
  · rw [jup_self]; simp
  · intro k hk
    rw [jup_row (by omega), getD_app L t k hk, jup_at]
    by_cases e : k = L.length
    · rw [if_pos e, if_pos e]; exact ⟨rfl, ht⟩
    · rw [if_neg e, if_neg e]; exact hc k (by simp at hk; omega)
theorem codesB {m0 m : JMu} {p : Nat} (h : BM m0 m p) (v : Int32) : f9_codes v m = some m := by
  unfold f9_codes
  rw [h.2.2, if_neg i10]
-- what one reading says
def Out (c0 m0 : JMu) (N o p : Nat) (L : List Nat) (rc : Option (Int32 × JMu)) (rm : Option JMu) : Prop :=
  (∃ c' m' p' L', rc = some (1, c') ∧ rm = some m' ∧ PC c0 c' p' (L ++ L') ∧ PM m0 m' o p' (L ++ L') ∧ p < p' ∧ p' ≤ N ∧ L'.length + p ≤ p' ∧ OKL L') ∨
  (∃ c' m' p', rc = some (0, c') ∧ rm = some m' ∧ BC c0 c' p' ∧ BM m0 m' p' ∧ p' ≤ N)
def Rd (c0 m0 : JMu) (N o : Nat) (F : JMu → Option (Int32 × JMu)) (G : JMu → Option JMu) : Prop :=
  ∀ c m p L, PC c0 c p L → PM m0 m o p L → L.length ≤ p → p ≤ N → Out c0 m0 N o p L (F c) (G m)
theorem OKL_op {L1 L2 : List Nat} {t : Nat} (h1 : OKL L1) (h2 : OKL L2) (ht : 20000 ≤ t) (ht2 : t < 20010) : OKL (L1 ++ (L2 ++ [t])) := by
  intro d
  rw [dpl_append, h1 d]
  show dpl (L2 ++ [t]) (d + 1) = _
  rw [dpl_append, h2 (d + 1)]
  show dpl [t] (d + 1 + 1) = _
  unfold dpl
  rw [if_neg (by omega), if_neg (by omega), if_pos ⟨ht, ht2⟩, if_neg (by omega)]
  rfl
theorem OKL_not {L : List Nat} (h : OKL L) : OKL (L ++ [20010]) := by
  intro d
  rw [dpl_append, h d]
  show dpl [20010] (d + 1) = _
  unfold dpl
  rw [if_neg (by omega), if_pos rfl, if_neg (by omega)]
  rfl
theorem OKL_one {t : Nat} (h : t < 10003) : OKL [t] := by
  intro d
  unfold dpl
  rw [if_pos h]
  rfl

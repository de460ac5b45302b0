/-! VOICES -/
def bodyT (k a : Nat) : Nat := ([[10, 11, 12, 13], [20, 11, 12, 13], [10, 11, 30, 13], [10, 40, 12, 13], [20, 11, 12, 50], [10, 11, 60, 61], [10, 70, 12, 13]].getD k []).getD a 0
theorem body_c : ∀ k, k < 7 → ∀ a, a < 4 → f5_bodyOf (nI k) (nI a) = some (nI (bodyT k a)) := by decide +kernel
def VR (c m : JMu) (k : Nat) : Prop := c 66 1 = nI k ∧ m 86 19 = nI k ∧ c 66 2 = m 86 20 ∧ c 66 3 = m 86 21 ∧ ∃ n, n ≤ 40 ∧ m 86 18 = nI n ∧ c 67 1 = nI n ∧ ∀ i, i < n → c 68 i = m 97 i
def VS (c0 m0 : JMu) (k : Nat) (c m : JMu) : Prop := VR c m k ∧ (∀ q, q ≠ 67 → q ≠ 68 → c q = c0 q) ∧ (∀ q, q ≠ 86 → q ≠ 97 → m q = m0 q) ∧ (∀ j, j ≠ 18 → m 86 j = m0 86 j)
theorem vstep {c0 m0 c m : JMu} {k : Nat} (h : VS c0 m0 k c m) (v : Int32) : ∃ b c' m', f3_add 67 v c = some (b, c') ∧ f9_runs v m = some m' ∧ VS c0 m0 k c' m' := by
  obtain ⟨⟨h1, h2, h3, h4, n, n1, n2, n3, n4⟩, hc, hm, hm2⟩ := h
  unfold f9_runs
  rw [n2]
  by_cases e : n = 40
  · subst e
    rw [if_pos (by decide)]
    exact ⟨_, _, _, add_out rs_67 (by omega) n3 v, rfl, ⟨h1, h2, h3, h4, 40, by omega, n2, n3, n4⟩, hc, hm, hm2⟩
  · rw [if_neg (by show ¬ nI 40 ≤ nI n; rw [nI_leI (by omega) (by omega)]; omega), if_pos (jin_nI (by omega) (by omega)), nI_clamp (by omega), jup_row (by omega), n2, nI_1]
    refine ⟨_, _, _, add_in rs_67 (by omega) n3 (by omega) v, rfl, ⟨?_, ?_, ?_, ?_, n + 1, by omega, by rw [jup_self], by rw [jup_self], ?_⟩, ?_, ?_, ?_⟩
    · rw [jup_row (by omega), jup_row (by omega)]; exact h1
    · rw [jup_col (by omega), jup_row (by omega)]; exact h2
    · rw [jup_row (by omega), jup_row (by omega), jup_col (by omega), jup_row (by omega)]; exact h3
    · rw [jup_row (by omega), jup_row (by omega), jup_col (by omega), jup_row (by omega)]; exact h4
    · intro i hi
      rw [jup_row (by omega), jup_row (q := 97) (by omega), jup_at, jup_at]
      by_cases q : i = n
      · rw [if_pos q, if_pos q]
      · rw [if_neg q, if_neg q]; exact n4 i (by omega)
    · intro q q1 q2; rw [jup_row q1, jup_row q2]; exact hc q q1 q2
    · intro q q1 q2; rw [jup_row q1, jup_row q2]; exact hm q q1 q2
    · intro j hj; rw [jup_col hj, jup_row (by omega)]; exact hm2 j hj
theorem le30 {d : Nat} (h : d ≤ 30) : nI d ≤ (30 : Int32) := by show nI d ≤ nI 30; rw [nI_leI (by omega) (by omega)]; exact h
theorem say10 (f d k a : Nat) (x : Int32) (c : JMu) (hd : d ≤ 30) (hk : k < 7) (ha : a < 4) (h : bodyT k a = 10) : gf5_say (f + 1) (nI k) (nI a) x (nI d) c = Option.bind (f3_add 67 (10 : Int32) c) fun r30 => some (x + (r30.2 66 2), r30.2) := by
  show f5_say_o (gf5_say f) (nI k) (nI a) x (nI d) c = _
  unfold f5_say_o
  rw [if_pos (le30 hd), body_c k hk a ha, h, ob, nI_1]
  refine congrArg _ (funext fun r => ?_)
  repeat (first | rw [if_pos (by decide)] | rw [if_neg (by decide)])
theorem say11 (f d k a : Nat) (x : Int32) (c : JMu) (hd : d ≤ 30) (hk : k < 7) (ha : a < 4) (h : bodyT k a = 11) : gf5_say (f + 1) (nI k) (nI a) x (nI d) c = Option.bind (f3_add 67 (11 : Int32) c) fun r30 => Option.bind (gf5_say f (r30.2 66 1) (0 : Int32) x (nI (d + 1)) r30.2) fun r33 => some (r33.1 * (2 : Int32), r33.2) := by
  show f5_say_o (gf5_say f) (nI k) (nI a) x (nI d) c = _
  unfold f5_say_o
  rw [if_pos (le30 hd), body_c k hk a ha, h, ob, nI_1]
  refine congrArg _ (funext fun r => ?_)
  repeat (first | rw [if_pos (by decide)] | rw [if_neg (by decide)])
theorem say12 (f d k a : Nat) (x : Int32) (c : JMu) (hd : d ≤ 30) (hk : k < 7) (ha : a < 4) (h : bodyT k a = 12) : gf5_say (f + 1) (nI k) (nI a) x (nI d) c = Option.bind (f3_add 67 (12 : Int32) c) fun r30 => some (x - (r30.2 66 3), r30.2) := by
  show f5_say_o (gf5_say f) (nI k) (nI a) x (nI d) c = _
  unfold f5_say_o
  rw [if_pos (le30 hd), body_c k hk a ha, h, ob, nI_1]
  refine congrArg _ (funext fun r => ?_)
  repeat (first | rw [if_pos (by decide)] | rw [if_neg (by decide)])
theorem say13 (f d k a : Nat) (x : Int32) (c : JMu) (hd : d ≤ 30) (hk : k < 7) (ha : a < 4) (h : bodyT k a = 13) : gf5_say (f + 1) (nI k) (nI a) x (nI d) c = Option.bind (f3_add 67 (13 : Int32) c) fun r30 => Option.bind (gf5_say f (r30.2 66 1) (1 : Int32) x (nI (d + 1)) r30.2) fun r36 => Option.bind (gf5_say f (r36.2 66 1) (2 : Int32) x (nI (d + 1)) r36.2) fun r37 => some (r36.1 ^^^ r37.1, r37.2) := by
  show f5_say_o (gf5_say f) (nI k) (nI a) x (nI d) c = _
  unfold f5_say_o
  rw [if_pos (le30 hd), body_c k hk a ha, h, ob, nI_1]
  refine congrArg _ (funext fun r => ?_)
  repeat (first | rw [if_pos (by decide)] | rw [if_neg (by decide)])
theorem say20 (f d k a : Nat) (x : Int32) (c : JMu) (hd : d ≤ 30) (hk : k < 7) (ha : a < 4) (h : bodyT k a = 20) : gf5_say (f + 1) (nI k) (nI a) x (nI d) c = Option.bind (f3_add 67 (20 : Int32) c) fun r30 => Option.bind (gf5_say f (0 : Int32) (0 : Int32) x (nI (d + 1)) r30.2) fun r39 => some (r39.1 * (3 : Int32), r39.2) := by
  show f5_say_o (gf5_say f) (nI k) (nI a) x (nI d) c = _
  unfold f5_say_o
  rw [if_pos (le30 hd), body_c k hk a ha, h, ob, nI_1]
  refine congrArg _ (funext fun r => ?_)
  repeat (first | rw [if_pos (by decide)] | rw [if_neg (by decide)])
theorem say30 (f d k a : Nat) (x : Int32) (c : JMu) (hd : d ≤ 30) (hk : k < 7) (ha : a < 4) (h : bodyT k a = 30) : gf5_say (f + 1) (nI k) (nI a) x (nI d) c = Option.bind (f3_add 67 (30 : Int32) c) fun r30 => Option.bind (gf5_say f (0 : Int32) (2 : Int32) x (nI (d + 1)) r30.2) fun r41 => some (-r41.1, r41.2) := by
  show f5_say_o (gf5_say f) (nI k) (nI a) x (nI d) c = _
  unfold f5_say_o
  rw [if_pos (le30 hd), body_c k hk a ha, h, ob, nI_1]
  refine congrArg _ (funext fun r => ?_)
  repeat (first | rw [if_pos (by decide)] | rw [if_neg (by decide)])
theorem say40 (f d k a : Nat) (x : Int32) (c : JMu) (hd : d ≤ 30) (hk : k < 7) (ha : a < 4) (h : bodyT k a = 40) : gf5_say (f + 1) (nI k) (nI a) x (nI d) c = Option.bind (f3_add 67 (40 : Int32) c) fun r30 => Option.bind (gf5_say f (0 : Int32) (1 : Int32) x (nI (d + 1)) r30.2) fun r43 => Option.bind (gf5_say f (r43.2 66 1) (2 : Int32) (1 : Int32) (nI (d + 1)) r43.2) fun r44 => some (r43.1 - r44.1, r44.2) := by
  show f5_say_o (gf5_say f) (nI k) (nI a) x (nI d) c = _
  unfold f5_say_o
  rw [if_pos (le30 hd), body_c k hk a ha, h, ob, nI_1]
  refine congrArg _ (funext fun r => ?_)
  repeat (first | rw [if_pos (by decide)] | rw [if_neg (by decide)])
theorem say50 (f d k a : Nat) (x : Int32) (c : JMu) (hd : d ≤ 30) (hk : k < 7) (ha : a < 4) (h : bodyT k a = 50) : gf5_say (f + 1) (nI k) (nI a) x (nI d) c = Option.bind (f3_add 67 (50 : Int32) c) fun r30 => Option.bind (gf5_say f (1 : Int32) (3 : Int32) x (nI (d + 1)) r30.2) fun r46 => Option.bind (gf5_say f (r46.2 66 1) (0 : Int32) (2 : Int32) (nI (d + 1)) r46.2) fun r47 => some (r46.1 - r47.1, r47.2) := by
  show f5_say_o (gf5_say f) (nI k) (nI a) x (nI d) c = _
  unfold f5_say_o
  rw [if_pos (le30 hd), body_c k hk a ha, h, ob, nI_1]
  refine congrArg _ (funext fun r => ?_)
  repeat (first | rw [if_pos (by decide)] | rw [if_neg (by decide)])
theorem say60 (f d k a : Nat) (x : Int32) (c : JMu) (hd : d ≤ 30) (hk : k < 7) (ha : a < 4) (h : bodyT k a = 60) : gf5_say (f + 1) (nI k) (nI a) x (nI d) c = Option.bind (f3_add 67 (60 : Int32) c) fun r30 => Option.bind (gf5_say f (2 : Int32) (2 : Int32) x (nI (d + 1)) r30.2) fun r49 => some (r49.1 ^^^ (r49.2 66 2), r49.2) := by
  show f5_say_o (gf5_say f) (nI k) (nI a) x (nI d) c = _
  unfold f5_say_o
  rw [if_pos (le30 hd), body_c k hk a ha, h, ob, nI_1]
  refine congrArg _ (funext fun r => ?_)
  repeat (first | rw [if_pos (by decide)] | rw [if_neg (by decide)])
theorem say61 (f d k a : Nat) (x : Int32) (c : JMu) (hd : d ≤ 30) (hk : k < 7) (ha : a < 4) (h : bodyT k a = 61) : gf5_say (f + 1) (nI k) (nI a) x (nI d) c = Option.bind (f3_add 67 (61 : Int32) c) fun r30 => Option.bind (gf5_say f (r30.2 66 1) (1 : Int32) x (nI (d + 1)) r30.2) fun r51 => Option.bind (gf5_say f (2 : Int32) (3 : Int32) x (nI (d + 1)) r51.2) fun r52 => some (r51.1 - r52.1, r52.2) := by
  show f5_say_o (gf5_say f) (nI k) (nI a) x (nI d) c = _
  unfold f5_say_o
  rw [if_pos (le30 hd), body_c k hk a ha, h, ob, nI_1]
  refine congrArg _ (funext fun r => ?_)
  repeat (first | rw [if_pos (by decide)] | rw [if_neg (by decide)])
theorem say70 (f d k a : Nat) (x : Int32) (c : JMu) (hd : d ≤ 30) (hk : k < 7) (ha : a < 4) (h : bodyT k a = 70) : gf5_say (f + 1) (nI k) (nI a) x (nI d) c = Option.bind (f3_add 67 (70 : Int32) c) fun r30 => Option.bind (gf5_say f (3 : Int32) (1 : Int32) (x + (1 : Int32)) (nI (d + 1)) r30.2) fun r54 => some (r54.1, r54.2) := by
  show f5_say_o (gf5_say f) (nI k) (nI a) x (nI d) c = _
  unfold f5_say_o
  rw [if_pos (le30 hd), body_c k hk a ha, h, ob, nI_1]
  refine congrArg _ (funext fun r => ?_)
  repeat (first | rw [if_pos (by decide)] | rw [if_neg (by decide)])
theorem v_look {c0 m0 c m : JMu} {k : Nat} (hk : k < 7) (h : VS c0 m0 k c m) (f d : Nat) (hd : d ≤ 29) (x : Int32) : ∃ v c' m', gf5_say (f + 2) (nI k) 0 x (nI d) c = some (v, c') ∧ f9_looksOf x m = some (v, m') ∧ VS c0 m0 k c' m' := by
  have key : ∀ c m, VS c0 m0 k c m → ∃ c' m', (Option.bind (f3_add 67 (10 : Int32) c) fun r30 => some (x + (r30.2 66 2), r30.2)) = some (x + m 86 20, c') ∧ f9_runs 10 m = some m' ∧ m' 86 20 = m 86 20 ∧ VS c0 m0 k c' m' := by
    intro c m h
    obtain ⟨b, c', m', a1, a2, a3⟩ := vstep h 10
    have e : m' 86 20 = m 86 20 := by rw [a3.2.2.2 20 (by omega), h.2.2.2 20 (by omega)]
    refine ⟨c', m', ?_, a2, e, a3⟩
    rw [a1, ob]
    dsimp only
    rw [a3.1.2.2.1, e]
  have h19 := h.1.2.1
  unfold f9_looksOf f9_looksOf_b16 f9_looksOf_b21 f9_looksOf_b32
  rw [h19]
  have two : (k = 1 ∨ k = 4) ∧ bodyT k 0 = 20 ∨ ¬ k = 1 ∧ ¬ k = 4 ∧ bodyT k 0 = 10 := by
    have : k = 0 ∨ k = 1 ∨ k = 2 ∨ k = 3 ∨ k = 4 ∨ k = 5 ∨ k = 6 := by omega
    rcases this with rfl | rfl | rfl | rfl | rfl | rfl | rfl <;> decide
  rcases two with ⟨e, b⟩ | ⟨e1, e4, b⟩
  · rw [show (0 : Int32) = nI 0 from rfl, say20 (f + 1) d k 0 x c (by omega) hk (by omega) b]
    obtain ⟨b, c', m', a1, a2, a3⟩ := vstep h 20
    obtain ⟨c2, m2, b1, b2, b3, b4⟩ := key c' m' a3
    have s0 : gf5_say (f + 1) (nI 0) (nI 0) x (nI (d + 1)) c' = _ := say10 f (d + 1) 0 0 x c' (by omega) (by omega) (by omega) rfl
    refine ⟨(x + m' 86 20) * 3, c2, m2, ?_, ?_, b4⟩
    · rw [a1, ob]
      dsimp only
      rw [show (0 : Int32) = nI 0 from rfl, s0, b1, ob]
    · rcases e with rfl | rfl
      · rw [if_pos (by decide), if_neg (by decide), a2, ob, b2, ob, if_neg (by decide), b3]
      · rw [if_neg (by decide), if_pos (by decide), if_neg (by decide), a2, ob, b2, ob, if_neg (by decide), b3]
  · rw [show (0 : Int32) = nI 0 from rfl, say10 (f + 1) d k 0 x c (by omega) hk (by omega) b]
    obtain ⟨c2, m2, b1, b2, b3, b4⟩ := key c m h
    refine ⟨x + m 86 20, c2, m2, b1, ?_, b4⟩
    rw [if_neg (by show ¬ nI k = nI 1; rw [nI_eq (by omega) (by omega)]; exact e1), if_neg (by show ¬ nI k = nI 4; rw [nI_eq (by omega) (by omega)]; exact e4), if_pos (by decide), b2, ob, if_pos (by decide), b3]
theorem v_hold {c0 m0 c m : JMu} {k : Nat} (hk : k < 7) (h : VS c0 m0 k c m) (f d : Nat) (hd : d ≤ 28) (x : Int32) : ∃ v c' m', gf5_say (f + 3) (nI k) 2 x (nI d) c = some (v, c') ∧ f9_holdsOf x m = some (v, m') ∧ VS c0 m0 k c' m' := by
  have key : ∀ c m, VS c0 m0 k c m → ∃ c' m', (Option.bind (f3_add 67 (12 : Int32) c) fun r30 => some (x - (r30.2 66 3), r30.2)) = some (x - m 86 21, c') ∧ f9_runs 12 m = some m' ∧ m' 86 21 = m 86 21 ∧ VS c0 m0 k c' m' := by
    intro c m h
    obtain ⟨b, c', m', a1, a2, a3⟩ := vstep h 12
    have e : m' 86 21 = m 86 21 := by rw [a3.2.2.2 21 (by omega), h.2.2.2 21 (by omega)]
    refine ⟨c', m', ?_, a2, e, a3⟩
    rw [a1, ob]
    dsimp only
    rw [a3.1.2.2.2.1, e]
  have h19 := h.1.2.1
  unfold f9_holdsOf f9_holdsOf_b14 f9_holdsOf_b30 f9_holdsOf_b35 f9_holdsOf_b46 f9_holdsOf_b72
  rw [h19]
  have cases3 : k = 5 ∧ bodyT k 2 = 60 ∨ k = 2 ∧ bodyT k 2 = 30 ∨ ¬ k = 5 ∧ ¬ k = 2 ∧ bodyT k 2 = 12 := by
    have : k = 0 ∨ k = 1 ∨ k = 2 ∨ k = 3 ∨ k = 4 ∨ k = 5 ∨ k = 6 := by omega
    rcases this with rfl | rfl | rfl | rfl | rfl | rfl | rfl <;> decide
  rw [show (2 : Int32) = nI 2 from rfl]
  rcases cases3 with ⟨e, b⟩ | ⟨e, b⟩ | ⟨e5, e2, b⟩
  · rw [say60 (f + 2) d k 2 x c (by omega) hk (by omega) b]
    obtain ⟨_, c', m', a1, a2, a3⟩ := vstep h 60
    obtain ⟨_, c'', m'', d1, d2, d3⟩ := vstep a3 30
    obtain ⟨c2, m2, b1, b2, b3, b4⟩ := key c'' m'' d3
    have s1 : gf5_say (f + 2) (nI 2) (nI 2) x (nI (d + 1)) c' = _ := say30 (f + 1) (d + 1) 2 2 x c' (by omega) (by omega) (by omega) rfl
    have s0 : gf5_say (f + 1) (nI 0) (nI 2) x (nI (d + 1 + 1)) c'' = _ := say12 f (d + 1 + 1) 0 2 x c'' (by omega) (by omega) (by omega) rfl
    refine ⟨(-(x - m'' 86 21)) ^^^ m2 86 20, c2, m2, ?_, ?_, b4⟩
    · rw [a1, ob]
      dsimp only
      rw [show (2 : Int32) = nI 2 from rfl, s1, d1, ob]
      dsimp only
      rw [show (2 : Int32) = nI 2 from rfl, show (0 : Int32) = nI 0 from rfl, s0, b1, ob, ob]
      dsimp only
      rw [b4.1.2.2.1]
    · subst e
      rw [if_pos (by decide), a2, ob, a3.1.2.1, if_neg (by decide), if_pos (by decide), if_neg (by decide), d2, ob, b2, ob, if_neg (by decide), b4.1.2.1, if_pos (by decide), b3]
  · rw [say30 (f + 2) d k 2 x c (by omega) hk (by omega) b]
    obtain ⟨_, c'', m'', d1, d2, d3⟩ := vstep h 30
    obtain ⟨c2, m2, b1, b2, b3, b4⟩ := key c'' m'' d3
    have s0 : gf5_say (f + 2) (nI 0) (nI 2) x (nI (d + 1)) c'' = _ := say12 (f + 1) (d + 1) 0 2 x c'' (by omega) (by omega) (by omega) rfl
    refine ⟨-(x - m'' 86 21), c2, m2, ?_, ?_, b4⟩
    · rw [d1, ob]
      dsimp only
      rw [show (2 : Int32) = nI 2 from rfl, show (0 : Int32) = nI 0 from rfl, s0, b1, ob]
    · subst e
      rw [if_neg (by decide), if_pos (by decide), if_neg (by decide), d2, ob, b2, ob, if_neg (by decide), b4.1.2.1, if_neg (by decide), b3]
  · rw [say12 (f + 2) d k 2 x c (by omega) hk (by omega) b]
    obtain ⟨c2, m2, b1, b2, b3, b4⟩ := key c m h
    have n5 : ¬ nI k = (5 : Int32) := by show ¬ nI k = nI 5; rw [nI_eq (by omega) (by omega)]; exact e5
    have n2 : ¬ nI k = nI 2 := by rw [nI_eq (by omega) (by omega)]; exact e2
    refine ⟨x - m 86 21, c2, m2, b1, ?_, b4⟩
    rw [if_neg n5, if_neg n2, if_neg n5, if_pos rfl, b2, ob, if_pos rfl, b4.1.2.1, if_neg n5, b3]
theorem v_pay {c0 m0 c m : JMu} {k : Nat} (hk : k < 7) (h : VS c0 m0 k c m) (f d : Nat) (hd : d ≤ 25) (x : Int32) : ∃ v c' m', gf5_say (f + 6) (nI k) 1 x (nI d) c = some (v, c') ∧ f9_paysOf x m = some (v, m') ∧ VS c0 m0 k c' m' := by
  have h19 := h.1.2.1
  unfold f9_paysOf f9_paysOf_b20 f9_paysOf_b37 f9_paysOf_b42 f9_paysOf_b53
  rw [h19, show (1 : Int32) = nI 1 from rfl]
  -- the plain one: 11
  have key : ∀ (c m : JMu) (f d : Nat) (x : Int32), d ≤ 28 → VS c0 m0 k c m → ∃ v c' m', gf5_say (f + 3) (nI 0) (nI 1) x (nI d) c = some (v * 2, c') ∧ (Option.bind (f9_runs 11 m) fun r11 => f9_looksOf x r11) = some (v, m') ∧ VS c0 m0 k c' m' := by
    intro c m f d x hd h
    obtain ⟨_, c', m', a1, a2, a3⟩ := vstep h 11
    obtain ⟨v, c2, m2, b1, b2, b3⟩ := v_look hk a3 f (d + 1) (by omega) x
    refine ⟨v, c2, m2, ?_, ?_, b3⟩
    · rw [say11 (f + 2) d 0 1 x c (by omega) (by omega) (by omega) rfl, a1, ob]
      dsimp only
      rw [a3.1.1, b1, ob]
    · rw [a2, ob, b2]
  have forty : ∀ (c m : JMu) (f d : Nat) (x : Int32), d ≤ 27 → VS c0 m0 k c m → ∃ v w c' m' m1, (Option.bind (f3_add 67 (40 : Int32) c) fun r30 => Option.bind (gf5_say (f + 3) (0 : Int32) (1 : Int32) x (nI (d + 1)) r30.2) fun r43 => Option.bind (gf5_say (f + 3) (r43.2 66 1) (2 : Int32) (1 : Int32) (nI (d + 1)) r43.2) fun r44 => some (r43.1 - r44.1, r44.2)) = some (v * 2 - w, c') ∧
      (Option.bind (f9_runs 40 m) fun r40 => Option.bind (f9_runs 11 r40) fun r11 => f9_looksOf x r11) = some (v, m1) ∧ f9_holdsOf 1 m1 = some (w, m') ∧ VS c0 m0 k c' m' := by
    intro c m f d x hd h
    obtain ⟨_, c', m', a1, a2, a3⟩ := vstep h 40
    obtain ⟨v, c2, m2, b1, b2, b3⟩ := key c' m' f (d + 1) x (by omega) a3
    obtain ⟨w, c3, m3, d1, d2, d3⟩ := v_hold hk b3 f (d + 1) (by omega) 1
    refine ⟨v, w, c3, m3, m2, ?_, ?_, d2, d3⟩
    · rw [a1, ob]
      dsimp only
      rw [show gf5_say (f + 3) (0 : Int32) (1 : Int32) x (nI (d + 1)) c' = _ from b1, ob]
      dsimp only
      rw [b3.1.1, d1, ob]
    · rw [a2, ob, b2]
  have cases3 : k = 3 ∧ bodyT k 1 = 40 ∨ k = 6 ∧ bodyT k 1 = 70 ∨ ¬ k = 3 ∧ ¬ k = 6 ∧ bodyT k 1 = 11 := by
    have : k = 0 ∨ k = 1 ∨ k = 2 ∨ k = 3 ∨ k = 4 ∨ k = 5 ∨ k = 6 := by omega
    rcases this with rfl | rfl | rfl | rfl | rfl | rfl | rfl <;> decide
  rcases cases3 with ⟨e, b⟩ | ⟨e, b⟩ | ⟨e3, e6, b⟩
  · obtain ⟨v, w, c', m', m1, a1, a2, a3, a4⟩ := forty c m (f + 2) d x (by omega) h
    refine ⟨v * 2 - w, c', m', ?_, ?_, a4⟩
    · rw [say40 (f + 5) d k 1 x c (by omega) hk (by omega) b]; exact a1
    · subst e
      rw [if_neg (by decide), if_pos (by decide), if_neg (by decide)]
      cases q : f9_runs 40 m with
      | none => rw [q] at a2; exact absurd a2 (by simp)
      | some m40 =>
        rw [q, ob] at a2
        rw [ob]
        cases q2 : f9_runs 11 m40 with
        | none => rw [q2] at a2; exact absurd a2 (by simp)
        | some m11 =>
          rw [q2, ob] at a2
          rw [ob, a2, ob, if_neg (by decide)]
          dsimp only
          rw [show f9_holdsOf (nI 1) m1 = _ from a3, ob]
  · obtain ⟨_, c1, m1, p1, p2, p3⟩ := vstep h 70
    obtain ⟨v, w, c', m', m2, a1, a2, a3, a4⟩ := forty c1 m1 (f + 1) (d + 1) (x + 1) (by omega) p3
    have s3 : gf5_say (f + 5) (nI 3) (nI 1) (x + 1) (nI (d + 1)) c1 = _ := say40 (f + 4) (d + 1) 3 1 (x + 1) c1 (by omega) (by omega) (by omega) rfl
    refine ⟨v * 2 - w, c', m', ?_, ?_, a4⟩
    · rw [say70 (f + 5) d k 1 x c (by omega) hk (by omega) b, p1, ob]
      dsimp only
      rw [show gf5_say (f + 5) (3 : Int32) (1 : Int32) (x + 1) (nI (d + 1)) c1 = _ from s3, a1, ob]
    · subst e
      rw [if_pos (by decide), p2, ob, p3.1.2.1, if_neg (by decide), if_pos (by decide), if_neg (by decide)]
      cases q : f9_runs 40 m1 with
      | none => rw [q] at a2; exact absurd a2 (by simp)
      | some m40 =>
        rw [q, ob] at a2
        rw [ob]
        cases q2 : f9_runs 11 m40 with
        | none => rw [q2] at a2; exact absurd a2 (by simp)
        | some m11 =>
          rw [q2, ob] at a2
          rw [ob, show f9_looksOf (x + nI 1) m11 = _ from a2, ob, if_neg (by decide)]
          dsimp only
          rw [show f9_holdsOf (nI 1) m2 = _ from a3, ob]
  · have n3 : ¬ nI k = (3 : Int32) := by show ¬ nI k = nI 3; rw [nI_eq (by omega) (by omega)]; exact e3
    have n6 : ¬ nI k = (6 : Int32) := by show ¬ nI k = nI 6; rw [nI_eq (by omega) (by omega)]; exact e6
    obtain ⟨_, c', m', a1, a2, a3⟩ := vstep h 11
    obtain ⟨v, c2, m2, b1, b2, b3⟩ := v_look hk a3 (f + 3) (d + 1) (by omega) x
    refine ⟨v * 2, c2, m2, ?_, ?_, b3⟩
    · rw [say11 (f + 5) d k 1 x c (by omega) hk (by omega) b, a1, ob]
      dsimp only
      rw [a3.1.1, b1, ob]
    · rw [if_neg n6, if_neg n3, if_neg n6, if_pos rfl, a2, ob, b2, ob, if_pos rfl]
theorem v_plain {c0 m0 c m : JMu} {k q : Nat} (hk : k < 7) (hq : q < 7) (hb : bodyT q 3 = 13) (h : VS c0 m0 k c m) (f d : Nat) (hd : d ≤ 24) (x : Int32) : ∃ v c' m', gf5_say (f + 7) (nI q) 3 x (nI d) c = some (v, c') ∧ f9_plainTells x m = some (v, m') ∧ VS c0 m0 k c' m' := by
  obtain ⟨_, c1, m1, a1, a2, a3⟩ := vstep h 13
  obtain ⟨v, c2, m2, b1, b2, b3⟩ := v_pay hk a3 f (d + 1) (by omega) x
  obtain ⟨w, c3, m3, d1, d2, d3⟩ := v_hold hk b3 (f + 3) (d + 1) (by omega) x
  refine ⟨v ^^^ w, c3, m3, ?_, ?_, d3⟩
  · rw [show (3 : Int32) = nI 3 from rfl, say13 (f + 6) d q 3 x c (by omega) hq (by omega) hb, a1, ob]
    dsimp only
    rw [a3.1.1, b1, ob]
    dsimp only
    rw [b3.1.1, d1, ob]
  · unfold f9_plainTells
    rw [a2, ob, b2, ob]
    dsimp only
    rw [d2, ob]
theorem v_tell {c0 m0 c m : JMu} {k : Nat} (hk : k < 7) (h : VS c0 m0 k c m) (f d : Nat) (hd : d ≤ 20) (x : Int32) : ∃ v c' m', gf5_say (f + 9) (nI k) 3 x (nI d) c = some (v, c') ∧ f9_tellsOf x m = some (v, m') ∧ VS c0 m0 k c' m' := by
  have h19 := h.1.2.1
  have cases3 : k = 5 ∧ bodyT k 3 = 61 ∨ k = 4 ∧ bodyT k 3 = 50 ∨ ¬ k = 5 ∧ ¬ k = 4 ∧ bodyT k 3 = 13 := by
    have : k = 0 ∨ k = 1 ∨ k = 2 ∨ k = 3 ∨ k = 4 ∨ k = 5 ∨ k = 6 := by omega
    rcases this with rfl | rfl | rfl | rfl | rfl | rfl | rfl <;> decide
  unfold f9_tellsOf
  rw [h19]
  rcases cases3 with ⟨e, b⟩ | ⟨e, b⟩ | ⟨e5, e4, b⟩
  · obtain ⟨_, c1, m1, a1, a2, a3⟩ := vstep h 61
    obtain ⟨v, c2, m2, b1, b2, b3⟩ := v_pay hk a3 (f + 2) (d + 1) (by omega) x
    obtain ⟨w, c3, m3, d1, d2, d3⟩ := v_plain (q := 2) hk (by omega) rfl b3 (f + 1) (d + 1) (by omega) x
    refine ⟨v - w, c3, m3, ?_, ?_, d3⟩
    · rw [show (3 : Int32) = nI 3 from rfl, say61 (f + 8) d k 3 x c (by omega) hk (by omega) b, a1, ob]
      dsimp only
      rw [a3.1.1, b1, ob]
      dsimp only
      rw [show gf5_say (f + 8) (2 : Int32) (3 : Int32) x (nI (d + 1)) c2 = _ from d1, ob]
    · subst e
      rw [if_pos (by decide), a2, ob, b2, ob]
      dsimp only
      rw [d2, ob]
  · obtain ⟨_, c1, m1, a1, a2, a3⟩ := vstep h 50
    obtain ⟨w, c3, m3, d1, d2, d3⟩ := v_plain (q := 1) hk (by omega) rfl a3 (f + 1) (d + 1) (by omega) x
    obtain ⟨v, c2, m2, b1, b2, b3⟩ := v_look hk d3 (f + 6) (d + 1) (by omega) 2
    refine ⟨w - v, c2, m2, ?_, ?_, b3⟩
    · rw [show (3 : Int32) = nI 3 from rfl, say50 (f + 8) d k 3 x c (by omega) hk (by omega) b, a1, ob]
      dsimp only
      rw [show gf5_say (f + 8) (1 : Int32) (3 : Int32) x (nI (d + 1)) c1 = _ from d1, ob]
      dsimp only
      rw [d3.1.1, b1, ob]
    · subst e
      rw [if_neg (by decide), if_pos (by decide), a2, ob, d2, ob]
      dsimp only
      rw [b2, ob]
  · have n5 : ¬ nI k = (5 : Int32) := by show ¬ nI k = nI 5; rw [nI_eq (by omega) (by omega)]; exact e5
    have n4 : ¬ nI k = (4 : Int32) := by show ¬ nI k = nI 4; rw [nI_eq (by omega) (by omega)]; exact e4
    obtain ⟨w, c3, m3, d1, d2, d3⟩ := v_plain (q := k) hk hk b h (f + 2) d (by omega) x
    refine ⟨w, c3, m3, d1, ?_, d3⟩
    rw [if_neg n5, if_neg n4, d2, ob]
theorem R_vo {c m c' m' : JMu} {k : Nat} (r : R c m) (e : ∀ q, q ≠ 66 → q ≠ 67 → q ≠ 68 → c' q = c q) (em : ∀ q, q ≠ 86 → q ≠ 97 → m' q = m q) (m3 : m' 86 3 = m 86 3) (v : VR c' m' k) : R c' m' := by
  obtain ⟨r1, r2, r3, r4, r5, r6, r7, r8, r9, -⟩ := r
  obtain ⟨-, -, -, -, tr⟩ := v
  unfold R RX
  rw [em 87 (by omega) (by omega), em 88 (by omega) (by omega), em 90 (by omega) (by omega), m3,
    e 53 (by omega) (by omega) (by omega), e 57 (by omega) (by omega) (by omega), e 0 (by omega) (by omega) (by omega), e 33 (by omega) (by omega) (by omega), e 37 (by omega) (by omega) (by omega), e 85 (by omega) (by omega) (by omega)]
  refine ⟨HC_far r1 r2 (fun q _ _ => e q (by omega) (by omega) (by omega)), r2, r3, r4, r5, ?_, r7, r8, ?_, tr⟩
  · intro h
    obtain ⟨a, b, d⟩ := r6 h
    exact ⟨HC_far a b (fun q _ _ => e q (by omega) (by omega) (by omega)), b, d⟩
  · intro s hs
    unfold SH
    rw [em 99 (by omega) (by omega), em 98 (by omega) (by omega), em 100 (by omega) (by omega), e _ (by omega) (by omega) (by omega), e _ (by omega) (by omega) (by omega), e _ (by omega) (by omega) (by omega)]
    exact r9 s hs
theorem act_voice {c m : JMu} (r : R c m) (x a y : Int32) : Ans (f8_voice x a y c) (f9_voice x a y m) := by
  have g2 := (g_n r.2.1).2
  unfold f8_voice f9_voice f8_voice_b24 f9_voice_b17
  rcases ten_two r x with ⟨h1, h2⟩ | ⟨t, ht, rfl, h1, h2⟩
  · rw [h1, h2, ob, ob, if_pos rfl]; exact ans_err1 r
  · obtain ⟨k1, k2⟩ := kd_eq r.2.1 ht
    rw [h1, h2, ob, ob, if_neg i10, within_eq, ob]
    dsimp only
    rw [outside_eq, ob]
    rcases rng a 0 3 (by omega) (by omega) with h | ⟨h, q, -, h4, rfl⟩
    · have h : a < 0 ∨ 3 < a := h
      rw [if_pos h, if_pos h, if_neg i10, if_pos rfl]; exact ans_err1 r
    · have h : ¬ (nI q < 0 ∨ 3 < nI q) := h
      rw [if_neg h, if_neg h, if_pos rfl, if_neg i10, ten0 _ (by omega), ob, ten1 _ (by omega), ob]
      have e66 : ∀ (ν : JMu) (k : Nat) (v : Int32), jup ν 66 k v (1 + 2 + t) = ν (1 + 2 + t) := fun ν k v => jup_row (by omega)
      have e67 : ∀ (ν : JMu) (k : Nat) (v : Int32), jup ν 67 k v (1 + 2 + t) = ν (1 + 2 + t) := fun ν k v => jup_row (by omega)
      have e86 : ∀ (ν : JMu) (k : Nat) (v : Int32), jup ν 86 k v 87 = ν 87 := fun ν k v => jup_row (by omega)
      simp only [e86, k1]
      have c0 := r.1.2.2.2.2.1 t 0 ht (by omega)
      have c1 := r.1.2.2.2.2.1 t 1 ht (by omega)
      have c0' : c (1 + 2 + t) 0 = nI (kd (m 87) t) := c0.trans k1
      unfold f5_speak f3_empty
      rw [if_pos (tn1 (by omega)), if_pos (show jO cPl 67 3 = true from rs_67.1), ob]
      simp only [e66, e67, c0', c1]
      have v0 : VS (jup (jup (jup (jup c 67 1 0) 66 1 (nI (kd (m 87) t))) 66 3 (m 87 (6 + 5 * t + 1))) 66 2 (nI t)) (jup (jup (jup (jup m 86 18 0) 86 19 (nI (kd (m 87) t))) 86 20 (nI t)) 86 21 (m 87 (6 + 5 * t + 1))) (kd (m 87) t)
          (jup (jup (jup (jup c 67 1 0) 66 1 (nI (kd (m 87) t))) 66 3 (m 87 (6 + 5 * t + 1))) 66 2 (nI t)) (jup (jup (jup (jup m 86 18 0) 86 19 (nI (kd (m 87) t))) 86 20 (nI t)) 86 21 (m 87 (6 + 5 * t + 1))) := by
        refine ⟨⟨?_, ?_, ?_, ?_, 0, by omega, ?_, ?_, fun i hi => by omega⟩, fun _ _ _ => rfl, fun _ _ _ => rfl, fun _ _ => rfl⟩ <;> simp [jup] <;> rfl
      generalize hC : jup (jup (jup (jup c 67 1 0) 66 1 (nI (kd (m 87) t))) 66 3 (m 87 (6 + 5 * t + 1))) 66 2 (nI t) = C at *
      generalize hM : jup (jup (jup (jup m 86 18 0) 86 19 (nI (kd (m 87) t))) 86 20 (nI t)) 86 21 (m 87 (6 + 5 * t + 1)) = M at *
      have fC : ∀ p, p ≠ 66 → p ≠ 67 → p ≠ 68 → C p = c p := by
        intro p p1 p2 p3
        rw [← hC, jup_row p1, jup_row p1, jup_row p1, jup_row p2]
      have fM : ∀ p, p ≠ 86 → p ≠ 97 → M p = m p := by
        intro p p1 p2
        rw [← hM, jup_row p1, jup_row p1, jup_row p1, jup_row p1]
      have fM3 : M 86 3 = m 86 3 := by
        rw [← hM, jup_col (by omega), jup_col (by omega), jup_col (by omega), jup_col (by omega)]
      have fin : ∀ c' m', VS C M (kd (m 87) t) c' m' → R c' m' := by
        intro c' m' v
        exact R_vo r (fun p p1 p2 p3 => by rw [v.2.1 p p2 p3, fC p p1 p2 p3]) (fun p p1 p2 => by rw [v.2.2.1 p p1 p2, fM p p1 p2]) (by rw [v.2.2.2 3 (by omega), fM3]) v.1
      unfold f5_say
      rw [v0.1.1]
      have : q = 0 ∨ q = 1 ∨ q = 2 ∨ q = 3 := by omega
      rcases this with rfl | rfl | rfl | rfl
      · obtain ⟨v, c', m', a1, a2, a3⟩ := v_look (by omega) v0 98 0 (by omega) y
        rw [if_pos (by decide), show gf5_say jK (nI (kd (m 87) t)) (nI 0) y 0 C = _ from a1, a2]
        exact ⟨_, _, _, rfl, rfl, fin c' m' a3⟩
      · obtain ⟨v, c', m', a1, a2, a3⟩ := v_pay (by omega) v0 94 0 (by omega) y
        rw [if_neg (by decide), if_pos (by decide), show gf5_say jK (nI (kd (m 87) t)) (nI 1) y 0 C = _ from a1, a2]
        exact ⟨_, _, _, rfl, rfl, fin c' m' a3⟩
      · obtain ⟨v, c', m', a1, a2, a3⟩ := v_hold (by omega) v0 97 0 (by omega) y
        rw [if_neg (by decide), if_neg (by decide), if_pos (by decide), show gf5_say jK (nI (kd (m 87) t)) (nI 2) y 0 C = _ from a1, a2]
        exact ⟨_, _, _, rfl, rfl, fin c' m' a3⟩
      · obtain ⟨v, c', m', a1, a2, a3⟩ := v_tell (by omega) v0 91 0 (by omega) y
        rw [if_neg (by decide), if_neg (by decide), if_neg (by decide), show gf5_say jK (nI (kd (m 87) t)) (nI 3) y 0 C = _ from a1, a2]
        exact ⟨_, _, _, rfl, rfl, fin c' m' a3⟩

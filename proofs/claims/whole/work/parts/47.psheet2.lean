/-! JUDGE, SHEET, PUT, MOVE -/
theorem jmin_nI {a b : Nat} (ha : a < 2 ^ 31) (hb : b < 2 ^ 31) : jmin (nI a) (nI b) = nI (min a b) := by
  unfold jmin
  by_cases e : b < a
  · rw [if_pos (by rw [ltI hb ha]; exact e), Nat.min_eq_right (by omega)]
  · rw [if_neg (by rw [ltI hb ha]; exact e), Nat.min_eq_left (by omega)]
theorem judge_loop {c m : JMu} (r : R c m) {s N : Nat} (hs : s < 4) (hN : N ≤ 40) (h99 : m 99 s = nI N) (cn : c (74 + 3 * s) 1 = nI N) (ci : ∀ i, i < N → c (75 + 3 * s) i = m 100 (40 * s + i)) : ∀ d n k, k + d = min N (nT (m 87)) → d < n →
    ∃ v, f8_judge_b52 n (73 + 3 * s) (nI (min N (nT (m 87)))) (nI k) c = some (v, c) ∧ f9_judge_b33 n (nI s) (nI k) m = some (v, m) := by
  obtain ⟨x1, x2, x3, x4, x5⟩ := sh_row hs
  obtain ⟨g1, g2⟩ := g_n r.2.1
  have hn : c 1 3 = nI (nT (m 87)) := r.1.2.2.2.1.trans g1
  intro d
  induction d with
  | zero =>
    intro n k hk hd
    obtain ⟨n, rfl⟩ : ∃ n', n = n' + 1 := ⟨n - 1, by omega⟩
    obtain rfl : k = min N (nT (m 87)) := by omega
    have kk : nI (min N (nT (m 87))) ≤ nI (min N (nT (m 87))) := by rw [nI_leI (by omega) (by omega)]; omega
    have fin : f9_judge_b77 (nI s) (nI (min N (nT (m 87)))) m = some (if N = nT (m 87) then -1 else nI (min N (nT (m 87))), m) := by
      unfold f9_judge_b77
      rw [if_pos (jin_nI hs (by omega)), nI_clamp (by omega), h99, g1]
      by_cases e : N = nT (m 87)
      · rw [e, Nat.min_self, if_pos rfl, if_pos rfl, if_pos rfl]
      · rw [if_neg e]
        by_cases e1 : min N (nT (m 87)) = N
        · rw [if_pos (by rw [e1]), if_neg (by rw [nI_eq (by omega) (by omega)]; omega)]
        · rw [if_neg (by rw [nI_eq (by omega) (by omega)]; exact e1)]
    refine ⟨if N = nT (m 87) then -1 else nI (min N (nT (m 87))), ?_, ?_⟩
    · unfold f8_judge_b52
      rw [if_pos kk, if_pos x2, x1, if_pos x3, cn, hn]
      by_cases e : N = nT (m 87)
      · rw [if_pos (by rw [e]), if_pos e]
      · rw [if_neg (by rw [nI_eq (by omega) (by omega)]; exact e), if_neg e]
    · unfold f9_judge_b33
      rw [if_pos (jin_nI hs (by omega)), nI_clamp (by omega), h99, fin]
      by_cases e : N ≤ nT (m 87)
      · rw [if_pos (by rw [nI_leI (by omega) (by omega)]; omega)]
      · rw [if_neg (by rw [nI_leI (by omega) (by omega)]; omega)]
        rcases ten_two r (nI (min N (nT (m 87)))) with ⟨h1, h2⟩ | ⟨t, ht, ekt, h1, h2⟩
        · rw [h2, ob, if_pos rfl]
        · rw [nI_eq (by omega) (by omega)] at ekt; omega
  | succ d ih =>
    intro n k hk hd
    obtain ⟨n, rfl⟩ : ∃ n', n = n' + 1 := ⟨n - 1, by omega⟩
    have kN : k < N := by omega
    have kT : k < nT (m 87) := by omega
    have kk : ¬ nI (min N (nT (m 87))) ≤ nI k := by rw [nI_leI (by omega) (by omega)]; omega
    have kk2 : ¬ nI N ≤ nI k := by rw [nI_leI (by omega) (by omega)]; omega
    have is1 : f9_isTenant (nI k) m = some 1 := by
      rcases ten_two r (nI k) with ⟨h1, h2⟩ | ⟨t, ht, ekt, h1, h2⟩
      · rw [find_in jH1 hn g2 kT] at h1; exact absurd h1 (by simp)
      · exact h2
    obtain ⟨v, i1, i2⟩ := ih n (k + 1) (by omega) (by omega)
    have c3 := r.1.2.2.2.2.1 k 3 kT (by omega)
    unfold f8_judge_b52 f9_judge_b33
    rw [if_neg kk, find_in jH1 hn g2 kT, ob, if_pos (jin_nI hs (by omega)), nI_clamp (n := s) (by omega), h99, if_neg kk2, is1, ob, if_neg i10, ix40, if_pos (jin_nI (by omega) (by omega)), nI_clamp (by omega), ten3 m (by omega), ob, nI_1]
    dsimp only
    rw [if_pos (tn1 (by omega)), if_pos x2, x1, if_pos x3, get_in x4 (by omega) cn kN hN, ob, x5, ci k kN]
    by_cases e : m 100 (40 * s + k) = m 87 (6 + 5 * k + 3)
    · rw [if_pos (by rw [c3]; exact e.symm), if_pos e]
      exact ⟨v, i1, i2⟩
    · rw [if_neg (by rw [c3]; exact fun h => e h.symm), if_neg e]
      refine ⟨nI k, rfl, ?_⟩
      unfold f9_judge_b77
      rw [if_pos (jin_nI hs (by omega)), nI_clamp (by omega), h99, if_neg (by rw [nI_eq (by omega) (by omega)]; omega)]
theorem act_judge {c m : JMu} (r : R c m) (x : Int32) : Ans (f8_judge x c) (f9_judge x m) := by
  unfold f8_judge f9_judge
  rcases sheet_two c x with ⟨h1, h2⟩ | ⟨s, hs, rfl, h1, h2⟩
  · rw [h1, h2, ob, ob, if_pos rfl]; exact ans_err1 r
  · obtain ⟨n, w, n40, s99, w4, s98, cw, cn, ci⟩ := r.2.2.2.2.2.2.2.2.1 s hs
    obtain ⟨x1, x2, x3, x4, x5⟩ := sh_row hs
    obtain ⟨w1, w2⟩ := w0 w4
    obtain ⟨g1, g2⟩ := g_n r.2.1
    have hn : c 1 3 = nI (nT (m 87)) := r.1.2.2.2.1.trans g1
    rw [h1, h2, ob, ob, if_neg i10, if_pos (jin_nI hs (by omega)), nI_clamp (by omega), s98]
    dsimp only
    rw [if_pos x2]
    by_cases e : w = 0
    · rw [if_pos (by rw [cw, w1]; exact e), if_pos (by rw [w1]; exact e)]; exact ans_err2 r
    · obtain ⟨v, a1, a2⟩ := judge_loop r hs n40 s99 cn ci (min n (nT (m 87))) jN 0 (by omega) (by unfold jN; omega)
      have e' : ¬ nI w = 0 := by rw [w1]; exact e
      rw [if_neg (by rw [cw]; exact e'), if_neg e', x1, if_pos x3, cn, hn, jmin_nI (by omega) (by omega), show (0 : Int32) = nI 0 from rfl, a1, a2]
      exact ⟨_, _, _, rfl, rfl, r⟩
-- sheet
theorem fill_loop {p : Nat} (hp : jRow p 40) (c0 : JMu) : ∀ d n k (c : JMu), k + d = 40 → d < n → (∀ q, q ≠ p + 1 → c q = c0 q) → (∀ j, j < k → c (p + 1) j = 0) → ∃ c', f3_fillWithNone_b19 p n (nI k) c = some c' ∧ (∀ q, q ≠ p + 1 → c' q = c0 q) ∧ (∀ j, j < 40 → c' (p + 1) j = 0) := by
  obtain ⟨a1, a2, a3, a4⟩ := hp
  intro d
  induction d with
  | zero =>
    intro n k c hk hd h1 h2
    obtain ⟨n, rfl⟩ : ∃ n', n = n' + 1 := ⟨n - 1, by omega⟩
    refine ⟨c, ?_, h1, fun j hj => h2 j (by omega)⟩
    unfold f3_fillWithNone_b19
    rw [a2, if_pos a3, a4, if_pos (by show nI 40 ≤ nI k; rw [nI_leI (by omega) (by omega)]; omega)]
  | succ d ih =>
    intro n k c hk hd h1 h2
    obtain ⟨n, rfl⟩ : ∃ n', n = n' + 1 := ⟨n - 1, by omega⟩
    unfold f3_fillWithNone_b19
    rw [a2, if_pos a3, a4, if_neg (by show ¬ nI 40 ≤ nI k; rw [nI_leI (by omega) (by omega)]; omega), if_pos (jin_nI (by omega) (by omega)), nI_clamp (by omega), nI_1]
    refine ih n (k + 1) _ (by omega) (by omega) (fun q hq => by rw [jup_row hq]; exact h1 q hq) (fun j hj => ?_)
    by_cases e : j = k
    · subst e; rw [jup_self]
    · rw [jup_col e]; exact h2 j (by omega)
theorem fillM_loop {s : Nat} (hs : s < 4) (m0 : JMu) : ∀ d n k (m : JMu), k + d = 40 → d < n → (∀ q, q ≠ 100 → m q = m0 q) → (∀ j, m 100 j = if 40 * s ≤ j ∧ j < 40 * s + k then 0 else m0 100 j) → ∃ m', f9_sheet_b93 n (nI s) (nI k) m = some (1, m') ∧ (∀ q, q ≠ 100 → m' q = m0 q) ∧ (∀ j, m' 100 j = if 40 * s ≤ j ∧ j < 40 * s + 40 then 0 else m0 100 j) := by
  intro d
  induction d with
  | zero =>
    intro n k m hk hd h1 h2
    obtain ⟨n, rfl⟩ : ∃ n', n = n' + 1 := ⟨n - 1, by omega⟩
    obtain rfl : k = 40 := by omega
    refine ⟨m, ?_, h1, h2⟩
    unfold f9_sheet_b93
    rw [if_pos (by decide)]
  | succ d ih =>
    intro n k m hk hd h1 h2
    obtain ⟨n, rfl⟩ : ∃ n', n = n' + 1 := ⟨n - 1, by omega⟩
    unfold f9_sheet_b93
    rw [if_neg (by show ¬ nI 40 ≤ nI k; rw [nI_leI (by omega) (by omega)]; omega), ix40, if_pos (jin_nI (by omega) (by omega)), nI_clamp (by omega), nI_1]
    refine ih n (k + 1) _ (by omega) (by omega) (fun q hq => by rw [jup_row hq]; exact h1 q hq) (fun j => ?_)
    by_cases e : j = 40 * s + k
    · subst e; rw [jup_self, if_pos (by omega)]
    · rw [jup_col e, h2 j]
      by_cases e2 : 40 * s ≤ j ∧ j < 40 * s + k
      · rw [if_pos e2, if_pos (by omega)]
      · rw [if_neg e2, if_neg (by omega)]
theorem sheet_set {c m : JMu} (r : R c m) {s w n : Nat} (hs : s < 4) (w4 : w = 0 ∨ w = 8 ∨ w = 16 ∨ w = 32) (hn : n ≤ 40) :
    Ans (f8_sheet_b93 (nI n) (74 + 3 * s) (jup c (73 + 3 * s) 1 (nI w))) (f9_sheet_b89 (nI s) (nI n) (nI s) (jup m 98 s (nI w))) := by
  obtain ⟨x1, x2, x3, x4, x5⟩ := sh_row hs
  have x4' := x4
  obtain ⟨a1, a2, a3, a4⟩ := x4'
  have mm : jmax 0 (jmin (nI n) (Int32.ofNat 40)) = nI n := by
    show jmax 0 (jmin (nI n) (nI 40)) = _
    rw [jmin_nI (by omega) (by omega), Nat.min_eq_left hn]
    unfold jmax
    by_cases e : (0 : Int32) < nI n
    · rw [if_pos e]
    · rw [if_neg e]
      have e' : ¬ nI 0 < nI n := e
      rw [ltI (by omega) (by omega)] at e'
      rw [show n = 0 by omega]; rfl
  obtain ⟨c', b1, b2, b3⟩ := fill_loop x4 (jup (jup c (73 + 3 * s) 1 (nI w)) (74 + 3 * s) 1 (nI n)) 40 jN 0 (jup (jup c (73 + 3 * s) 1 (nI w)) (74 + 3 * s) 1 (nI n)) (by omega) (by unfold jN; omega) (fun _ _ => rfl) (fun j hj => by omega)
  obtain ⟨m', d1, d2, d3⟩ := fillM_loop hs (jup (jup m 98 s (nI w)) 99 s (nI n)) 40 jN 0 (jup (jup m 98 s (nI w)) 99 s (nI n)) (by omega) (by unfold jN; omega) (fun _ _ => rfl) (fun j => by rw [if_neg (by omega)])
  unfold f8_sheet_b93 f3_fillWithNone f9_sheet_b89
  rw [if_pos x3, if_pos x3, a2, if_pos a3, a4, mm, if_pos (jin_nI hs (by omega)), nI_clamp (by omega), show (0 : Int32) = nI 0 from rfl, b1, d1]
  refine ⟨_, _, _, rfl, rfl, R_sh r ?_ ?_ ?_⟩
  · intro q hq
    rw [b2 q (by omega), jup_row (by omega), jup_row (by omega)]
  · intro q h1 h2 h3 h4
    rw [d2 q h3, jup_row h2, jup_row h1]
  · intro s' hs'
    obtain ⟨n', w', n40, s99, w4', s98, cw, cn, ci⟩ := r.2.2.2.2.2.2.2.2.1 s' hs'
    by_cases e : s' = s
    · subst e
      refine ⟨n, w, hn, ?_, w4, ?_, ?_, ?_, ?_⟩
      · rw [d2 99 (by omega), jup_self]
      · rw [d2 98 (by omega), jup_row (by omega), jup_self]
      · rw [b2 _ (by omega), jup_row (by omega), jup_self]
      · rw [b2 _ (by omega), jup_self]
      · intro i hi
        rw [← x5, b3 i (by omega), d3, if_pos (by omega)]
    · refine ⟨n', w', n40, ?_, w4', ?_, ?_, ?_, ?_⟩
      · rw [d2 99 (by omega), jup_col e, jup_row (by omega)]; exact s99
      · rw [d2 98 (by omega), jup_row (by omega), jup_col e]; exact s98
      · rw [b2 _ (by omega), jup_row (by omega), jup_row (by omega)]; exact cw
      · rw [b2 _ (by omega), jup_row (by omega), jup_row (by omega)]; exact cn
      · intro i hi
        rw [b2 _ (by omega), jup_row (by omega), jup_row (by omega), d3, if_neg (by omega), jup_row (by omega), jup_row (by omega)]; exact ci i hi
theorem sheet_b41 {c m : JMu} (r : R c m) {s w : Nat} (hs : s < 4) (w4 : w = 0 ∨ w = 8 ∨ w = 16 ∨ w = 32) (x : Int32) : Ans (f8_sheet_b41 (nI w) x (73 + 3 * s) c) (f9_sheet_b36 (nI s) (nI w) x m) := by
  obtain ⟨x1, x2, x3, x4, x5⟩ := sh_row hs
  obtain ⟨w1, w2⟩ := w0 w4
  unfold f8_sheet_b41 f8_sheet_b56 f8_sheet_b73 f9_sheet_b36 f9_sheet_b51 f9_sheet_b68
  rw [if_pos x2, if_pos (jin_nI hs (by omega)), nI_clamp (by omega), x1]
  by_cases e : w = 0
  · have e' := w1.mpr e
    rw [if_pos e', if_pos e', if_pos e', if_pos e', if_pos e', if_pos e']
    exact sheet_set r hs w4 (n := 0) (by omega)
  · have e' : ¬ nI w = 0 := by rw [w1]; exact e
    rw [if_neg e', if_neg e', if_neg e', if_neg e', if_neg e', if_neg e']
    by_cases e0 : 0 ≤ x
    · rw [if_pos e0, if_pos e0]
      by_cases e4 : x ≤ 40
      · rw [if_pos e4, if_pos e4]
        obtain ⟨k, -, k2, rfl⟩ := i_rng (x := x) (a := 0) (b := 40) (by intro h; have h' : x < 0 := h; exact (fa_of_lt h').2.1 e0) (by intro h; have h' : (40 : Int32) < x := h; exact (fa_of_lt h').2.1 e4) (by omega) (by omega)
        exact sheet_set r hs w4 k2
      · rw [if_neg e4, if_neg e4]; exact ans_err1 r
    · rw [if_neg e0, if_neg e0]; exact ans_err3 r
theorem act_sheet {c m : JMu} (r : R c m) (x b n : Int32) : Ans (f8_sheet x b n c) (f9_sheet x b n m) := by
  unfold f8_sheet f9_sheet f8_sheet_b34 f9_sheet_b29
  rcases sheet_two c x with ⟨h1, h2⟩ | ⟨s, hs, rfl, h1, h2⟩
  · rw [h1, h2, ob, ob, if_pos rfl]; exact ans_err1 r
  · rw [h1, h2, ob, ob, if_neg i10]
    dsimp only
    by_cases e0 : b = 0
    · rw [if_pos e0, if_pos e0, e0]; exact sheet_b41 r hs (w := 0) (by omega) n
    rw [if_neg e0, if_neg e0]
    by_cases e1 : b = 8
    · rw [if_pos e1, if_pos e1, e1]; exact sheet_b41 r hs (w := 8) (by omega) n
    rw [if_neg e1, if_neg e1]
    by_cases e2 : b = 16
    · rw [if_pos e2, if_pos e2, e2]; exact sheet_b41 r hs (w := 16) (by omega) n
    rw [if_neg e2, if_neg e2]
    by_cases e3 : b = 32
    · rw [if_pos e3, if_pos e3, e3]; exact sheet_b41 r hs (w := 32) (by omega) n
    rw [if_neg e3, if_neg e3]
    exact ans_err1 r
-- put
theorem R_put {c m : JMu} (r : R c m) {s i : Nat} (hs : s < 4) (hi : i < 40) (v : Int32) : R (jup c (75 + 3 * s) i v) (jup m 100 (40 * s + i) v) := by
  refine R_sh r (fun q hq => jup_row (by omega)) (fun q _ _ h _ => jup_row h) ?_
  intro s' hs'
  obtain ⟨n', w', n40, s99, w4', s98, cw, cn, ci⟩ := r.2.2.2.2.2.2.2.2.1 s' hs'
  refine ⟨n', w', n40, by rw [jup_row (by omega)]; exact s99, w4', by rw [jup_row (by omega)]; exact s98, by rw [jup_row (by omega)]; exact cw, by rw [jup_row (by omega)]; exact cn, ?_⟩
  intro j hj
  by_cases e : s' = s
  · subst e
    rw [jup_at, jup_at]
    by_cases e2 : j = i
    · rw [if_pos e2, if_pos (by omega)]
    · rw [if_neg e2, if_neg (by omega)]; exact ci j hj
  · rw [jup_row (by omega), jup_col (by omega)]; exact ci j hj
theorem has_two {p n s : Nat} {c m : JMu} (hp : jRow p n) (hn : n < 2 ^ 31) (hs : c p 1 = nI s) (h2 : s ≤ n) (x : Int32) : (f3_has p x c = some 0 ∧ (x < 0 ∨ nI s - 1 < x)) ∨ (∃ k, k < s ∧ x = nI k ∧ f3_has p x c = some 1 ∧ ¬ (x < 0 ∨ nI s - 1 < x)) := by
  obtain ⟨a1, a2, a3, a4⟩ := hp
  unfold f3_has
  rw [if_pos a1, hs]
  rcases pk_ix x (n := s) (by omega) with h | h | ⟨t, h, rfl⟩
  · rw [if_pos h]; exact Or.inl ⟨rfl, Or.inl h⟩
  · have h2 : nI s - 1 < x := by
      have z1 : (1 : Int32).toInt = 1 := rfl
      have := nI_toInt (n := s) (by omega)
      rw [fa_le] at h
      rw [fa_lt, fb_subI (by omega) (by omega)]; omega
    by_cases h0 : x < 0
    · rw [if_pos h0]; exact Or.inl ⟨rfl, Or.inl h0⟩
    · rw [if_neg h0, if_pos h]; exact Or.inl ⟨rfl, Or.inr h2⟩
  · have h2 : ¬ (nI t < 0 ∨ nI s - 1 < nI t) := by
      rintro (q | q)
      · exact nI_pos (by omega) q
      · obtain ⟨s, rfl⟩ : ∃ s', s = s' + 1 := ⟨s - 1, by omega⟩
        rw [nI_pred, ltI (by omega) (by omega)] at q; omega
    refine Or.inr ⟨t, h, rfl, ?_, h2⟩
    rw [if_neg (nI_pos (by omega)), if_neg (by rw [nI_leI (by omega) (by omega)]; omega), a2, if_pos a3, a4, if_neg (by show ¬ nI n ≤ nI t; rw [nI_leI (by omega) (by omega)]; omega)]
theorem act_put {c m : JMu} (r : R c m) (x i v : Int32) : Ans (f8_put x i v c) (f9_put x i v m) := by
  unfold f8_put f9_put
  rcases sheet_two c x with ⟨h1, h2⟩ | ⟨s, hs, rfl, h1, h2⟩
  · rw [h1, h2, ob, ob, if_pos rfl]; exact ans_err1 r
  · obtain ⟨n, w, n40, s99, w4, s98, cw, cn, ci⟩ := r.2.2.2.2.2.2.2.2.1 s hs
    obtain ⟨x1, x2, x3, x4, x5⟩ := sh_row hs
    obtain ⟨w1, w2⟩ := w0 w4
    have js : jin (nI s) 4 = true := jin_nI hs (by omega)
    rw [h1, h2, ob, ob, if_neg i10, if_pos js, if_pos js, if_pos js, if_pos js, nI_clamp (by omega), s98, s99]
    dsimp only
    rw [if_pos x2, x1, if_pos x3]
    by_cases e : w = 0
    · rw [if_pos (by rw [cw, w1]; exact e), if_pos (by rw [w1]; exact e)]; exact ans_err2 r
    · have e' : ¬ nI w = 0 := by rw [w1]; exact e
      rw [if_neg (by rw [cw]; exact e'), if_neg e', within_eq, ob]
      rcases has_two (c := c) (m := m) x4 (by omega) cn n40 i with ⟨p1, p2⟩ | ⟨k, k1, rfl, p1, p2⟩
      · rw [p1, ob, if_pos rfl, if_pos p2, if_pos rfl]; exact ans_err1 r
      · rw [p1, ob, if_neg i10, if_neg p2, if_neg i10]
        have fs : ∀ v, f3_set (74 + 3 * s) (nI k) v c = some (jup c (75 + 3 * s) k v) := by
          intro v
          unfold f3_set
          rw [if_pos x3, p1, ob, if_neg i10, x4.2.1, if_pos x4.2.2.1, x4.2.2.2, if_pos (jin_nI (by omega) (by omega)), nI_clamp (by omega), x5]
        have fm : ∀ v, f9_put_b97 v (40 * nI s + nI k) m = some (1, jup m 100 (40 * s + k) v) := by
          intro v
          unfold f9_put_b97
          rw [ix40, if_pos (jin_nI (by omega) (by omega)), nI_clamp (by omega)]
        rw [fm, fm, fm]
        unfold f4_lowestBits
        rw [if_pos x2, cw]
        have fin : ∀ v, Ans (Option.bind (some v) fun r21 => Option.bind (f3_set (74 + 3 * s) (nI k) r21 c) fun r22 => some ((1 : Int32), r22)) (some (1, jup m 100 (40 * s + k) v)) := by
          intro v
          rw [ob, fs]
          exact ⟨_, _, _, rfl, rfl, R_put r hs (by omega) v⟩
        by_cases e8 : nI w = 8
        · rw [if_pos e8, if_pos e8]; exact fin _
        · rw [if_neg e8, if_neg e8]
          by_cases e16 : nI w = 16
          · rw [if_pos e16, if_pos e16]; exact fin _
          · rw [if_neg e16, if_neg e16]; exact fin _
-- move
theorem mv1_loop {s i N : Nat} (hs : s < 4) (hi : i + N ≤ 40) (a3 a4 : Int32) (m0 : JMu) : ∀ d n k (m : JMu), k + d = N → d < n → (∀ q, q ≠ 101 → m q = m0 q) → (∀ j, j < k → m 101 j = m0 100 (40 * s + i + j)) →
    ∃ m', f9_move_b128 n (nI s) (nI i) a3 a4 (nI N) (nI k) m = f9_move_b165 jN a3 a4 (nI N) 0 m' ∧ (∀ q, q ≠ 101 → m' q = m0 q) ∧ (∀ j, j < N → m' 101 j = m0 100 (40 * s + i + j)) := by
  intro d
  induction d with
  | zero =>
    intro n k m hk hd h1 h2
    obtain ⟨n, rfl⟩ : ∃ n', n = n' + 1 := ⟨n - 1, by omega⟩
    refine ⟨m, ?_, h1, fun j hj => h2 j (by omega)⟩
    conv => lhs; unfold f9_move_b128
    rw [if_pos (by rw [nI_leI (by omega) (by omega)]; omega)]
  | succ d ih =>
    intro n k m hk hd h1 h2
    obtain ⟨n, rfl⟩ : ∃ n', n = n' + 1 := ⟨n - 1, by omega⟩
    unfold f9_move_b128
    rw [if_neg (by rw [nI_leI (by omega) (by omega)]; omega), ix40, nI_add, if_pos (jin_nI (by omega) (by omega)), if_pos (jin_nI (by omega) (by omega)), nI_clamp (by omega), nI_clamp (by omega), nI_1]
    refine ih n (k + 1) _ (by omega) (by omega) (fun q hq => by rw [jup_row hq]; exact h1 q hq) (fun j hj => ?_)
    by_cases e : j = k
    · subst e; rw [jup_self, h1 100 (by omega)]
    · rw [jup_col e]; exact h2 j (by omega)
theorem mv2_loop {s j N : Nat} (hs : s < 4) (hj : j + N ≤ 40) (m0 : JMu) : ∀ d n k (m : JMu), k + d = N → d < n → (∀ q, q ≠ 100 → m q = m0 q) → (∀ x, m 100 x = if 40 * s + j ≤ x ∧ x < 40 * s + j + k then m0 101 (x - (40 * s + j)) else m0 100 x) →
    ∃ m', f9_move_b165 n (nI s) (nI j) (nI N) (nI k) m = some (nI N, m') ∧ (∀ q, q ≠ 100 → m' q = m0 q) ∧ (∀ x, m' 100 x = if 40 * s + j ≤ x ∧ x < 40 * s + j + N then m0 101 (x - (40 * s + j)) else m0 100 x) := by
  intro d
  induction d with
  | zero =>
    intro n k m hk hd h1 h2
    obtain ⟨n, rfl⟩ : ∃ n', n = n' + 1 := ⟨n - 1, by omega⟩
    obtain rfl : k = N := by omega
    refine ⟨m, ?_, h1, h2⟩
    unfold f9_move_b165
    rw [if_pos (by rw [nI_leI (by omega) (by omega)]; omega)]
  | succ d ih =>
    intro n k m hk hd h1 h2
    obtain ⟨n, rfl⟩ : ∃ n', n = n' + 1 := ⟨n - 1, by omega⟩
    unfold f9_move_b165
    rw [if_neg (by rw [nI_leI (by omega) (by omega)]; omega), ix40, nI_add, if_pos (jin_nI (by omega) (by omega)), if_pos (jin_nI (by omega) (by omega)), nI_clamp (by omega), nI_clamp (by omega), nI_1]
    refine ih n (k + 1) _ (by omega) (by omega) (fun q hq => by rw [jup_row hq]; exact h1 q hq) (fun x => ?_)
    by_cases e : x = 40 * s + j + k
    · subst e; rw [jup_self, if_pos (by omega), h1 101 (by omega), show 40 * s + j + k - (40 * s + j) = k by omega]
    · rw [jup_col e, h2 x]
      by_cases e2 : 40 * s + j ≤ x ∧ x < 40 * s + j + k
      · rw [if_pos e2, if_pos (by omega)]
      · rw [if_neg e2, if_neg (by omega)]
theorem l64 (x y : Int32) : (x.toInt64 + y.toInt64).toInt = x.toInt + y.toInt := by
  have h1 := fb_rng x
  have h2 := fb_rng y
  rw [Int64.toInt_add, Int32.toInt_toInt64, Int32.toInt_toInt64]
  rw [Int.bmod_def]
  omega
theorem act_move {c m : JMu} (r : R c m) (x i y j n : Int32) : Ans (f8_move x i y j n c) (f9_move x i y j n m) := by
  unfold f8_move f9_move f8_move_b24 f9_move_b14 f8_move_b47 f9_move_b39 f9_move_b118
  rcases sheet_two c x with ⟨h1, h2⟩ | ⟨s, hs, rfl, h1, h2⟩
  · rcases sheet_two c y with ⟨h3, h4⟩ | ⟨s', hs', rfl, h3, h4⟩
    · rw [h1, h2, h3, ob, ob, ob, if_pos rfl]; exact ans_err1 r
    · rw [h1, h2, h3, ob, ob, ob, if_pos rfl]; exact ans_err1 r
  · rcases sheet_two c y with ⟨h3, h4⟩ | ⟨s', hs', rfl, h3, h4⟩
    · rw [h1, h2, h3, h4, ob, ob, ob, if_neg i10, ob, if_pos rfl]; exact ans_err1 r
    · obtain ⟨N, w, n40, s99, w4, s98, cw, cn, ci⟩ := r.2.2.2.2.2.2.2.2.1 s hs
      obtain ⟨N', w', n40', s99', w4', s98', cw', cn', ci'⟩ := r.2.2.2.2.2.2.2.2.1 s' hs'
      obtain ⟨x1, x2, x3, x4, x5⟩ := sh_row hs
      obtain ⟨y1, y2, y3, y4, y5⟩ := sh_row hs'
      obtain ⟨w1, -⟩ := w0 w4
      obtain ⟨w1', -⟩ := w0 w4'
      have js : jin (nI s) 4 = true := jin_nI hs (by omega)
      have js' : jin (nI s') 4 = true := jin_nI hs' (by omega)
      rw [h1, h2, h3, h4, ob, ob, ob, if_neg i10, ob, if_neg i10, if_pos js, if_pos js', if_pos js, if_pos js', if_pos js, if_pos js', nI_clamp (by omega), nI_clamp (by omega), s98, s98', s99, s99']
      dsimp only
      rw [if_pos x2, if_pos y2, cw, cw', x1, y1, if_pos y3]
      by_cases e : w = 0
      · have e' := w1.mpr e
        rw [if_pos e', if_pos e']; exact ans_err2 r
      have e' : ¬ nI w = 0 := by rw [w1]; exact e
      rw [if_neg e', if_neg e']
      by_cases f : w' = 0
      · have f' := w1'.mpr f
        rw [if_pos f', if_pos f']; exact ans_err2 r
      have f' : ¬ nI w' = 0 := by rw [w1']; exact f
      rw [if_neg f', if_neg f']
      by_cases ww : nI w = nI w'
      · rw [if_pos ww, if_pos ww]
        have bad : f3_takeFrom (74 + 3 * s') (74 + 3 * s) i j n c = some (0, c) → Ans (Option.bind (f3_takeFrom (74 + 3 * s') (74 + 3 * s) i j n c) fun r29 => if r29.1 = 0 then Option.bind (f8_fail (-1000000001) r29.2) fun r31 => some (r31.1, r31.2) else some (n, r29.2)) (Option.bind (f9_finding (-1000000001) m) fun r31 => some (r31.1, r31.2)) := by
          intro q
          rw [q, ob]
          dsimp only
          rw [if_pos rfl]; exact ans_err1 r
        have zn : nI N = nI N := rfl
        by_cases n0 : n < 0
        · rw [if_pos n0]; apply bad; unfold f3_takeFrom; rw [if_pos y3, if_pos x3, if_pos n0]
        rw [if_neg n0]
        by_cases i0 : i < 0
        · rw [if_pos i0]; apply bad; unfold f3_takeFrom; rw [if_pos y3, if_pos x3, if_neg n0, if_pos i0]
        rw [if_neg i0]
        by_cases j0 : j < 0
        · rw [if_pos j0]; apply bad; unfold f3_takeFrom; rw [if_pos y3, if_pos x3, if_neg n0, if_neg i0, if_pos j0]
        rw [if_neg j0]
        have z0 : (0 : Int32).toInt = 0 := rfl
        have n0' : 0 ≤ n.toInt := by rw [fa_lt] at n0; omega
        have i0' : 0 ≤ i.toInt := by rw [fa_lt] at i0; omega
        have j0' : 0 ≤ j.toInt := by rw [fa_lt] at j0; omega
        have ri := fb_rng i
        have rj := fb_rng j
        have rn := fb_rng n
        have tN := nI_toInt (n := N) (by omega)
        have tN' := nI_toInt (n := N') (by omega)
        have k1 : (nI N - i < n) ↔ ¬ i.toInt + n.toInt ≤ N := by rw [fa_lt, fb_subI (by omega) (by omega)]; omega
        have k2 : (n ≤ nI N' - j) ↔ j.toInt + n.toInt ≤ N' := by rw [fa_le, fb_subI (by omega) (by omega)]; omega
        have l1 : (0 < lg_cmp (i.toInt64 + n.toInt64) (nI N).toInt64) ↔ ¬ i.toInt + n.toInt ≤ N := by
          rw [lg_cmp_gt, fa_lt64, l64, Int32.toInt_toInt64, tN]; omega
        have l2 : (lg_cmp (j.toInt64 + n.toInt64) (nI N').toInt64 ≤ 0) ↔ j.toInt + n.toInt ≤ N' := by
          rw [lg_cmp_le, fa_le64, l64, Int32.toInt_toInt64, tN']
        by_cases q1 : i.toInt + n.toInt ≤ N
        · rw [if_neg (by rw [l1]; exact fun h => h q1)]
          by_cases q2 : j.toInt + n.toInt ≤ N'
          · rw [if_pos (l2.mpr q2)]
            obtain ⟨a, a1, a2⟩ : ∃ a : Nat, (a : Int) = i.toInt ∧ i = nI a := ⟨i.toInt.toNat, by omega, by rw [fa_eq, nI_toInt (by omega)]; omega⟩
            obtain ⟨b, b1, b2⟩ : ∃ b : Nat, (b : Int) = j.toInt ∧ j = nI b := ⟨j.toInt.toNat, by omega, by rw [fa_eq, nI_toInt (by omega)]; omega⟩
            obtain ⟨d, d1, d2⟩ : ∃ d : Nat, (d : Int) = n.toInt ∧ n = nI d := ⟨n.toInt.toNat, by omega, by rw [fa_eq, nI_toInt (by omega)]; omega⟩
            have cl : ∀ k : Nat, k < 2 ^ 31 → (nI k).toNatClampNeg = k := fun k hk => nI_clamp hk
            have tk : f3_takeFrom (74 + 3 * s') (74 + 3 * s) i j n c = some (1, jcp c (75 + 3 * s) (75 + 3 * s') a b d) := by
              unfold f3_takeFrom
              rw [if_pos y3, if_pos x3, if_neg n0, if_neg i0, if_neg j0, cn, cn', if_neg (by rw [k1]; exact fun h => h q1), if_pos (k2.mpr q2), x4.2.1, y4.2.1, if_pos x4.2.2.1, if_pos y4.2.2.1, x4.2.2.2, y4.2.2.2, a2, b2, d2, cl a (by omega), cl b (by omega), cl d (by omega),
                if_pos ⟨nI_pos (by omega), nI_pos (by omega), nI_pos (by omega), by omega, by omega⟩, x5, y5]
            obtain ⟨m1, e1, e2, e3⟩ := mv1_loop (s := s) (i := a) (N := d) hs (by omega) (nI s') (nI b) m d jN 0 m (by omega) (by unfold jN; omega) (fun _ _ => rfl) (fun j hj => by omega)
            obtain ⟨m2, g1, g2, g3⟩ := mv2_loop (s := s') (j := b) (N := d) hs' (by omega) m1 d jN 0 m1 (by omega) (by unfold jN; omega) (fun _ _ => rfl) (fun x => by rw [if_neg (by omega)])
            rw [tk, ob]
            dsimp only
            rw [if_neg i10, a2, b2, d2, show (0 : Int32) = nI 0 from rfl, e1, show (0 : Int32) = nI 0 from rfl, g1]
            refine ⟨_, _, _, rfl, rfl, R_sh r ?_ ?_ ?_⟩
            · intro q hq
              funext k
              unfold jcp
              rw [if_neg (by omega)]
            · intro q p1 p2 p3 p4
              rw [g2 q p3, e2 q p4]
            · intro t ht
              obtain ⟨Nt, wt, n40t, s99t, w4t, s98t, cwt, cnt, cit⟩ := r.2.2.2.2.2.2.2.2.1 t ht
              refine ⟨Nt, wt, n40t, by rw [g2 99 (by omega), e2 99 (by omega)]; exact s99t, w4t, by rw [g2 98 (by omega), e2 98 (by omega)]; exact s98t, ?_, ?_, ?_⟩
              · unfold jcp; rw [if_neg (by omega)]; exact cwt
              · unfold jcp; rw [if_neg (by omega)]; exact cnt
              · intro k hk
                rw [g3]
                unfold jcp
                by_cases et : t = s'
                · subst et
                  by_cases ek : b ≤ k ∧ k < b + d
                  · rw [if_pos ⟨rfl, ek⟩, if_pos (by omega), e3 _ (by omega), ci _ (by omega)]
                    congr 1
                    omega
                  · rw [if_neg (by omega), if_neg (by omega), e2 100 (by omega)]; exact cit k hk
                · rw [if_neg (by omega), if_neg (by omega), e2 100 (by omega)]; exact cit k hk
          · rw [if_neg (by rw [l2]; exact q2)]
            apply bad; unfold f3_takeFrom
            rw [if_pos y3, if_pos x3, if_neg n0, if_neg i0, if_neg j0, cn, cn', if_neg (by rw [k1]; exact fun h => h q1), if_neg (by rw [k2]; exact q2)]
        · rw [if_pos (l1.mpr q1)]
          apply bad; unfold f3_takeFrom
          rw [if_pos y3, if_pos x3, if_neg n0, if_neg i0, if_neg j0, cn, if_pos (k1.mpr q1)]
      · rw [if_neg ww, if_neg ww]; exact ans_err5 r

/-! NUMBERS, NAMES, SIGNS -/
theorem digit_two (b : Int32) : (∃ k, k ≤ 9 ∧ b = nI (48 + k) ∧ f2_isDigit b = some 1 ∧ f9_within b 48 57 = some 1) ∨ (f2_isDigit b = some 0 ∧ f9_within b 48 57 = some 0 ∧ ∀ k, k ≤ 9 → b ≠ nI (48 + k)) := by
  unfold f2_isDigit f9_within
  rcases rng b 48 57 (by omega) (by omega) with h | ⟨h, k, h1, h2, rfl⟩
  · have h : b < 48 ∨ 57 < b := h
    refine Or.inr ⟨?_, ?_, ?_⟩
    · by_cases e : b < 48
      · rw [if_pos e]
      · rw [if_neg e, if_pos (h.resolve_left e)]
    · by_cases e : b < 48
      · rw [if_pos e]
      · rw [if_neg e, if_pos (h.resolve_left e)]
    · rintro k hk rfl
      rcases h with h | h
      · have : nI (48 + k) < nI 48 := h
        rw [ltI (by omega) (by omega)] at this; omega
      · have : nI 57 < nI (48 + k) := h
        rw [ltI (by omega) (by omega)] at this; omega
  · have h : ¬ (nI k < 48 ∨ 57 < nI k) := h
    rw [not_or] at h
    refine Or.inl ⟨k - 48, by omega, by congr 1; omega, ?_, ?_⟩
    · rw [if_neg h.1, if_neg h.2]
    · rw [if_neg h.1, if_neg h.2]
theorem num_loop {c0 m0 : JMu} {B : Nat → Int32} {N u o : Nat} (t : TP c0 m0 B N u) (r0 r1 r2 r3 r4 r5 : JMu → Option JMu) {L : List Nat} {p0 : Nat} (hL : L.length ≤ p0) : ∀ j n n' i x p (c m : JMu), i + j = 4 → j < n → j < n' → x < 10 ^ i → PC c0 c p L → PM m0 m o p L → p ≤ N → p0 + i ≤ p → (i = 0 → ∃ k, k ≤ 9 ∧ hrB B N p = nI (48 + k)) →
    ∃ c' m' p' x', f2_readNumber_b4 n (nI x) (nI i) c = some c' ∧ f9_one_b131 r0 r1 r2 r3 r4 r5 n' (nI x) (nI i) m = some m' ∧ PC c0 c' p' (L ++ [x']) ∧ PM m0 m' o p' (L ++ [x']) ∧ x' < 10000 ∧ p0 + 1 ≤ p' ∧ p' ≤ N := by
  have tN := t.1
  have fin : ∀ (c m : JMu) (p x : Nat), x < 10000 → PC c0 c p L → PM m0 m o p L → p0 + 1 ≤ p → p ≤ N → ∃ c' m' p' x', f2_readNumber_b48 (nI x) c = some c' ∧ f9_one_b179 r0 r1 r2 r3 r4 r5 (nI x) m = some m' ∧ PC c0 c' p' (L ++ [x']) ∧ PM m0 m' o p' (L ++ [x']) ∧ x' < 10000 ∧ p0 + 1 ≤ p' ∧ p' ≤ N := by
    intro c m p x hx h1 h2 h3 h4
    obtain ⟨b, c', a1, a2⟩ := PC_add h1 x (by omega)
    obtain ⟨m', b1, b2⟩ := codesM h2 x (by omega) (by omega)
    rw [show tokI x = nI x by unfold tokI; rw [if_pos hx]] at a1
    unfold f2_readNumber_b48 f9_one_b179
    rw [a1, b1]
    exact ⟨c', m', p, x, rfl, rfl, a2, b2, hx, h3, h4⟩
  intro j
  induction j with
  | zero =>
    intro n n' i x p c m hi hn hn' hx h1 h2 h3 h4 h5
    obtain ⟨n, rfl⟩ : ∃ q, n = q + 1 := ⟨n - 1, by omega⟩
    obtain ⟨n', rfl⟩ : ∃ q, n' = q + 1 := ⟨n' - 1, by omega⟩
    obtain rfl : i = 4 := by omega
    unfold f2_readNumber_b4 f9_one_b131
    rw [if_pos (by decide), if_pos (by decide)]
    exact fin c m p x hx h1 h2 (by omega) h3
  | succ j ih =>
    intro n n' i x p c m hi hn hn' hx h1 h2 h3 h4 h5
    obtain ⟨n, rfl⟩ : ∃ q, n = q + 1 := ⟨n - 1, by omega⟩
    obtain ⟨n', rfl⟩ : ∃ q, n' = q + 1 := ⟨n' - 1, by omega⟩
    have hc := hereC t h1.1 h1.2.1 (by omega)
    have hm := hereM t h2 (by omega)
    have k4 : ¬ (4 : Int32) ≤ nI i := by show ¬ nI 4 ≤ _; rw [nI_leI (by omega) (by omega)]; omega
    unfold f2_readNumber_b4 f9_one_b131
    rw [if_neg k4, if_neg k4, hc, ob, hm, ob, ob, ob]
    rcases digit_two (hrB B N p) with ⟨k, k9, ek, d1, d2⟩ | ⟨d1, d2, d3⟩
    · rw [d1, d2, ob, ob, if_neg i10, if_neg i10, ek, show (10 : Int32) = nI 10 from rfl, show (48 : Int32) = nI 48 from rfl, pk_mul, pk_mul, nI_add, nI_add, pk_sub (by omega), pk_sub (by omega), nI_1]
      have pN : p < N := by
        apply Classical.byContradiction
        intro q
        unfold hrB at ek
        rw [if_neg q] at ek
        exact nI_nm1 (k := 48 + k) (by omega) ek.symm
      have e1 : x * 10 + (48 + k) - 48 = 10 * x + k := by omega
      have e2 : 10 * x + (48 + k) - 48 = 10 * x + k := by omega
      rw [e1, e2]
      refine ih n n' (i + 1) (10 * x + k) (p + 1) _ _ (by omega) (by omega) (by omega) (by rw [Nat.pow_succ]; omega) (PC_up h1) ?_ (by omega) (by omega) (by omega)
      obtain ⟨f, q6, q7, q9, q11, qc⟩ := h2
      refine ⟨FM_86 f (by omega) _, ?_, ?_, ?_, ?_, ?_⟩
      · rw [jup_self, q6]; exact nI_1 p
      · rw [jup_col (by omega)]; exact q7
      · rw [jup_col (by omega)]; exact q9
      · rw [jup_col (by omega)]; exact q11
      · rw [jup_row (by omega)]; exact qc
    · have i1 : 1 ≤ i := by
        apply Classical.byContradiction
        intro q
        obtain ⟨k, k1, k2⟩ := h5 (by omega)
        exact d3 k k1 k2
      rw [d1, d2, ob, ob, if_pos rfl, if_pos rfl]
      exact fin c m p x (Nat.lt_of_lt_of_le hx (show 10 ^ i ≤ 10 ^ 4 from Nat.pow_le_pow_right (by omega) (by omega))) h1 h2 (by omega) h3
theorem name_b4 (a x y z : Int32) : f9_nameOf_b4 a [x, y, z] jN (-1) 0 = some (if z = a then 2 else if y = a then 1 else if x = a then 0 else -1) := by
  show f9_nameOf_b4 a [x, y, z] (996 + 1 + 1 + 1 + 1) (-1) 0 = _
  unfold f9_nameOf_b4
  rw [if_neg (by show ¬ nI 3 ≤ 0; decide), if_pos (by show jin 0 3 = true; decide)]
  unfold f9_nameOf_b4
  rw [if_neg (by show ¬ nI 3 ≤ 0 + 1; decide), if_pos (by show jin (0 + 1) 3 = true; decide)]
  unfold f9_nameOf_b4
  rw [if_neg (by show ¬ nI 3 ≤ 0 + 1 + 1; decide), if_pos (by show jin (0 + 1 + 1) 3 = true; decide)]
  unfold f9_nameOf_b4
  rw [if_pos (by show nI 3 ≤ 0 + 1 + 1 + 1; decide)]
  rfl
theorem name_two {c m : JMu} {u : Nat} (hu : u ≤ 1) (hc : c 61 2 = nI u) (hm : m 86 8 = nI u) (b : Int32) :
    (∃ j, j < 3 ∧ f2_nameOf b c = some (tokI (10000 + j)) ∧ f9_nameOf b m = some (nI j) ∧ 0 ≤ b ∧ b ≠ 33 ∧ b ≠ 40 ∧ tokI (10000 + j) ≠ 0) ∨ (f2_nameOf b c = some 0 ∧ f9_nameOf b m = some (-1)) := by
  have : u = 0 ∨ u = 1 := by omega
  rcases this with rfl | rfl
  · have hM : f9_nameOf b m = some (if (119 : Int32) = b then 2 else if (112 : Int32) = b then 1 else if (110 : Int32) = b then 0 else -1) := by
      unfold f9_nameOf
      rw [hm, if_pos (by decide)]
      exact name_b4 b 110 112 119
    rw [hM]
    unfold f2_nameOf
    rw [hc]
    by_cases e1 : b = 119
    · subst e1; exact Or.inl ⟨2, by omega, rfl, rfl, by decide, by decide, by decide, by decide⟩
    by_cases e2 : b = 112
    · subst e2; exact Or.inl ⟨1, by omega, rfl, rfl, by decide, by decide, by decide, by decide⟩
    by_cases e3 : b = 110
    · subst e3; exact Or.inl ⟨0, by omega, rfl, rfl, by decide, by decide, by decide, by decide⟩
    right
    have e1' : ¬ (119 : Int32) = b := fun h => e1 h.symm
    have e2' : ¬ (112 : Int32) = b := fun h => e2 h.symm
    have e3' : ¬ (110 : Int32) = b := fun h => e3 h.symm
    have z : ¬ nI 0 = (1 : Int32) := by decide
    simp only [e1, e2, e3, e1', e2', e3', z, if_false]
    refine ⟨?_, trivial⟩
    repeat' split
    all_goals rfl
  · have hM : f9_nameOf b m = some (if (113 : Int32) = b then 2 else if (99 : Int32) = b then 1 else if (114 : Int32) = b then 0 else -1) := by
      unfold f9_nameOf
      rw [hm, if_pos (by decide)]
      exact name_b4 b 114 99 113
    rw [hM]
    unfold f2_nameOf
    rw [hc]
    by_cases e1 : b = 113
    · subst e1; exact Or.inl ⟨2, by omega, rfl, rfl, by decide, by decide, by decide, by decide⟩
    by_cases e2 : b = 99
    · subst e2; exact Or.inl ⟨1, by omega, rfl, rfl, by decide, by decide, by decide, by decide⟩
    by_cases e3 : b = 114
    · subst e3; exact Or.inl ⟨0, by omega, rfl, rfl, by decide, by decide, by decide, by decide⟩
    right
    have e1' : ¬ (113 : Int32) = b := fun h => e1 h.symm
    have e2' : ¬ (99 : Int32) = b := fun h => e2 h.symm
    have e3' : ¬ (114 : Int32) = b := fun h => e3 h.symm
    have z : ¬ nI 1 = (0 : Int32) := by decide
    simp only [e1, e2, e3, e1', e2', e3', z, if_false]
    refine ⟨?_, trivial⟩
    repeat' split
    all_goals rfl
-- signs
def opT (lev : Nat) (b : Int32) : Nat :=
  if b = 124 ∧ lev = 0 then 20000 else if b = 38 ∧ lev = 1 then 20001 else if b = 60 ∧ lev = 2 then 20002 else if b = 61 ∧ lev = 2 then 20003 else if b = 62 ∧ lev = 2 then 20004
  else if b = 43 ∧ lev = 3 then 20005 else if b = 45 ∧ lev = 3 then 20006 else if b = 42 ∧ lev = 4 then 20007 else if b = 47 ∧ lev = 4 then 20008 else if b = 37 ∧ lev = 4 then 20009 else 0
theorem lev_op (b : Int32) {lev : Nat} (hl : lev ≤ 4) : ∃ x, f2_levelOf b = some x ∧ (x = nI lev ↔ opT lev b ≠ 0) := by
  have l5 : lev = 0 ∨ lev = 1 ∨ lev = 2 ∨ lev = 3 ∨ lev = 4 := by omega
  by_cases h : b = 37 ∨ b = 38 ∨ b = 42 ∨ b = 43 ∨ b = 45 ∨ b = 47 ∨ b = 60 ∨ b = 61 ∨ b = 62 ∨ b = 124
  · rcases h with rfl | rfl | rfl | rfl | rfl | rfl | rfl | rfl | rfl | rfl <;>
      exact ⟨_, rfl, by rcases l5 with rfl | rfl | rfl | rfl | rfl <;> decide⟩
  · simp only [not_or] at h
    obtain ⟨h1, h2, h3, h4, h5, h6, h7, h8, h9, h10⟩ := h
    refine ⟨-1, ?_, ?_⟩
    · unfold f2_levelOf
      rw [if_neg h1, if_neg h2, if_neg h3, if_neg h4, if_neg h5, if_neg h6, if_neg h7, if_neg h8, if_neg h9, if_neg h10]
    · unfold opT
      simp only [h1, h2, h3, h4, h5, h6, h7, h8, h9, h10, false_and, if_false]
      constructor
      · intro q; exact absurd q.symm (nI_nm1 (by omega))
      · intro q; exact absurd rfl q
theorem tok_op {lev : Nat} {b : Int32} (h : opT lev b ≠ 0) : 20000 ≤ opT lev b ∧ opT lev b < 20010 ∧ tokI (opT lev b) = -b := by
  revert h
  unfold opT
  repeat' split
  all_goals first
    | (intro h; exact absurd rfl h)
    | (rename_i q; obtain ⟨rfl, -⟩ := q; intro _; decide)
theorem op_m1 (lev : Nat) : opT lev (-1) = 0 := by
  unfold opT
  simp

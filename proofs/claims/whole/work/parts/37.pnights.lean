/-! WHAT IS OWED -/
theorem sHo_bt (A : Nat → Int32) (cells : Int32) {i : Nat} (hi : i < 32) : ∀ k, k ≤ 31 → bt (sHo A cells k) i = (decide (i < k) && !decide (tL A i &&& cells = 0))
  | 0, _ => by unfold sHo; rw [b_0]; simp
  | k + 1, hk => by
    have ih := sHo_bt A cells hi k (by omega)
    unfold sHo
    by_cases e : tL A k &&& cells = 0
    · rw [if_pos e, ih]
      by_cases q : i = k
      · subst q; simp [e]
      · have : decide (i < k + 1) = decide (i < k) := decide_eq_decide.mpr (by omega)
        rw [this]
    · rw [if_neg e, b_or, ih, b_one k (by omega) hi]
      by_cases q : i = k
      · subst q; simp [e]
      · have : decide (i < k + 1) = decide (i < k) := decide_eq_decide.mpr (by omega)
        rw [this]; simp [q]
def othP (A : Nat → Int32) (t i : Nat) : Bool := !decide (i = t) && !decide (tL A i &&& tL A t = 0)
def oth (A : Nat → Int32) (t : Nat) : Nat := fb_ct (othP A t) (nT A)
theorem fb_ct_cut {p q : Nat → Bool} {n N : Nat} (h : n ≤ N) (h1 : ∀ i, i < n → p i = q i) (h2 : ∀ i, n ≤ i → i < N → p i = false) : fb_ct p N = fb_ct q n := by
  obtain ⟨d, rfl⟩ : ∃ d, N = n + d := ⟨N - n, by omega⟩
  rw [fb_ct_split, fb_ct_cong h1, fb_ct_zero.mpr (fun k hk => h2 (n + k) (by omega) (by omega))]; rfl
theorem b_not1 (t : Nat) (ht : t < 32) {i : Nat} (hi : i < 32) : bt (((1 : Int32) <<< (nI t &&& 31)) ^^^ (-1)) i = !decide (i = t) := by
  rw [b_xor, b_one t ht hi, b_m1 i hi]; simp
theorem sharers_pc {A : Nat → Int32} (g : GA A) {t : Nat} (ht : t < nT A) : pcI (sHold A (tL A t) &&& (((1 : Int32) <<< (nI t &&& 31)) ^^^ (-1))) = oth A t := by
  have g2 := (g_n g).2
  unfold pcI oth
  apply fb_ct_cut (by omega)
  · intro i hi
    rw [b_and, b_not1 t (by omega) (by omega)]
    unfold sHold
    rw [sHo_bt A _ (by omega) _ (by omega)]
    unfold othP
    simp only [hi, decide_true, Bool.true_and]
    exact Bool.and_comm _ _
  · intro i h1 h2
    rw [b_and]
    unfold sHold
    rw [sHo_bt A _ (by omega) _ (by omega)]
    have : ¬ i < nT A := by omega
    simp [this]
theorem sharers_eq {c : JMu} {h : Nat} {A : Nat → Int32} (hh : jH h) (hc : HC c h A) (g : GA A) {t : Nat} (ht : t < nT A) : f0_sharersWith h (nI t) c = some (nI (oth A t)) := by
  obtain ⟨g1, g2⟩ := g_n g
  have hn : c h 3 = nI (nT A) := hc.2.2.2.1.trans g1
  unfold f0_sharersWith
  rw [if_pos (hs_obj hh), find_in hh hn g2 ht, ob]
  show (if jO cPl (h + 2 + t) 6 = true then _ else _) = _
  rw [if_pos (tn_obj hh (by omega)), hc.2.2.2.2.1 t 2 ht (by omega), holders_eq hh hc g, ob, bitCount_eq, ob, show A (6 + 5 * t + 2) = tL A t from rfl, sharers_pc g ht]
theorem add0 (x : Int32) : x + 0 = x := by simp
theorem oth_le (A : Nat → Int32) (t : Nat) : oth A t ≤ nT A := fb_ct_le _ _
theorem othersM_loop {m : JMu} (g : GA (m 87)) {t : Nat} (ht : t < nT (m 87)) : ∀ d n k, k + d = nT (m 87) → d < n → f9_othersIn_b4 n (nI t) (nI (fb_ct (othP (m 87) t) k)) (nI k) m = some (nI (oth (m 87) t)) := by
  obtain ⟨g1, g2⟩ := g_n g
  intro d
  induction d with
  | zero =>
    intro n k hk hd
    obtain ⟨n, rfl⟩ : ∃ n', n = n' + 1 := ⟨n - 1, by omega⟩
    unfold f9_othersIn_b4 oth
    rw [if_pos (by rw [g1, nI_leI (by omega) (by omega)]; omega), show k = nT (m 87) by omega]
  | succ d ih =>
    intro n k hk hd
    obtain ⟨n, rfl⟩ : ∃ n', n = n' + 1 := ⟨n - 1, by omega⟩
    have i1 := ih n (k + 1) (by omega) (by omega)
    rw [fb_ct_succ] at i1
    unfold f9_othersIn_b4 f9_othersIn_b40 f9_othersIn_b41
    rw [if_neg (by rw [g1, nI_leI (by omega) (by omega)]; omega), nI_1, add0]
    by_cases e : k = t
    · subst e
      rw [if_pos rfl]
      rw [show othP (m 87) k k = false by unfold othP; simp] at i1
      exact i1
    · rw [if_neg (by rw [nI_eq (by omega) (by omega)]; exact e), ten2 m (by omega), ob, ten2 m (by omega), ob]
      by_cases q : m 87 (6 + 5 * k + 2) &&& m 87 (6 + 5 * t + 2) = 0
      · rw [if_pos q]
        rw [show othP (m 87) t k = false by unfold othP tL; simp [q]] at i1
        exact i1
      · rw [if_neg q, nI_1]
        rw [show othP (m 87) t k = true by unfold othP tL; simp [q, e]] at i1
        exact i1
theorem othersM_eq {m : JMu} (g : GA (m 87)) {t : Nat} (ht : t < nT (m 87)) : f9_othersIn (nI t) m = some (nI (oth (m 87) t)) := by
  unfold f9_othersIn
  exact othersM_loop g ht (nT (m 87)) jN 0 (by omega) (by have := (g_n g).2; unfold jN; omega)
def owesK (k : Nat) (mm v : Int32) (o : Nat) : Int32 := if k = 1 then v / 2 else if k = 2 ∨ k = 5 then v + mm else if k = 3 then v - v / 10 else if k = 4 then v / 2 / nI (1 + o) else if k = 6 then jmax 0 (v - v / 10 - mm) else v
theorem jmax_one (o : Nat) (h : o ≤ 40) : jmax 1 (1 + nI o) = nI (1 + o) := by
  unfold jmax
  rw [show (1 : Int32) + nI o = nI (1 + o) from nI_add 1 o]
  by_cases e : o = 0
  · subst e; rfl
  · rw [if_pos (by show nI 1 < _; rw [ltI (by omega) (by omega)]; omega)]
theorem owesBy_k {p k o : Nat} {c : JMu} {v : Int32} (ho : jO cPl p 6 = true) (hk : c p 0 = nI k) (k6 : k ≤ 6) (o6 : o ≤ 40) : f6_owesBy p v (nI o) c = some (owesK k (c p 1) v o) := by
  unfold f6_owesBy f6_owesBy_b60
  rw [if_pos ho, hk, jmax_one o o6]
  have n0 : ¬ nI (1 + o) = 0 := nI_ne0 (by omega) (by omega)
  rcases k7 k6 with rfl | rfl | rfl | rfl | rfl | rfl | rfl
  all_goals (repeat (first | rw [if_pos (by decide)] | rw [if_neg (by decide)]))
  all_goals first
    | rfl
    | (rw [if_pos n0]; rfl)
def sOwes (A : Nat → Int32) (t : Nat) : Int32 := owesK (kd A t) (A (6 + 5 * t + 1)) (sRT A (tL A t) 24) (oth A t)
theorem owesM_loop {t : Nat} : ∀ d n k (m : JMu), GA (m 87) → t < nT (m 87) → k + d = 24 → d < n → ∃ m', f9_owes_b4 n (nI t) (sRT (m 87) (tL (m 87) t) k) (nI k) m = some (sOwes (m 87) t, m') ∧ m' 87 = m 87 ∧ eM m m' := by
  intro d
  induction d with
  | zero =>
    intro n k m g ht hk hd
    obtain ⟨g1, g2⟩ := g_n g
    obtain ⟨n, rfl⟩ : ∃ n', n = n' + 1 := ⟨n - 1, by omega⟩
    refine ⟨m, ?_, rfl, eM_rf m⟩
    obtain ⟨k1, k2⟩ := kd_eq g ht
    have n0 : ¬ nI (1 + oth (m 87) t) = 0 := nI_ne0 (by omega) (by have := oth_le (m 87) t; omega)
    have e1 : ∀ o, (1 : Int32) + nI o = nI (1 + o) := fun o => nI_add 1 o
    unfold f9_owes_b4 sOwes
    rw [if_pos (by show nI 24 ≤ nI k; rw [nI_leI (by omega) (by omega)]; omega), ten1 m (by omega), ob, ten0 m (by omega), ob, othersM_eq g ht, ob, e1, k1]
    obtain rfl : k = 24 := by omega
    generalize sRT (m 87) (tL (m 87) t) 24 = v
    generalize hkk : kd (m 87) t = kk at *
    rcases k7 k2 with rfl | rfl | rfl | rfl | rfl | rfl | rfl
    all_goals (repeat (first | rw [if_pos (by decide)] | rw [if_neg (by decide)]))
    all_goals first
      | rfl
      | (rw [if_pos n0]; rfl)
  | succ d ih =>
    intro n k m g ht hk hd
    obtain ⟨g1, g2⟩ := g_n g
    obtain ⟨n, rfl⟩ : ∃ n', n = n' + 1 := ⟨n - 1, by omega⟩
    unfold f9_owes_b4 f9_owes_b33
    rw [if_neg (by show ¬ nI 24 ≤ nI k; rw [nI_leI (by omega) (by omega)]; omega), ten2 m (by omega), ob, hasBit_eq _ _ (by omega), ob, nI_1, add0]
    by_cases e : bt (m 87 (6 + 5 * t + 2)) k = true
    · rw [e, if_neg (by decide)]
      obtain ⟨m1, r, h1, h2⟩ := rentOf_eq g (cell := k) (by omega)
      rw [r, ob]
      obtain ⟨m2, r2, h3, h4⟩ := ih n (k + 1) m1 (by rw [h1]; exact g) (by rw [h1]; exact ht) (by omega) (by omega)
      rw [h1] at r2 h3
      refine ⟨m2, ?_, h3, eM_tr h2 h4⟩
      rw [← r2]
      conv => rhs; unfold sRT
      rw [show bt (tL (m 87) t) k = true from e]; rfl
    · have e' : bt (m 87 (6 + 5 * t + 2)) k = false := by simpa using e
      rw [e', if_pos (by decide)]
      obtain ⟨m2, r2, h3, h4⟩ := ih n (k + 1) m g ht (by omega) (by omega)
      refine ⟨m2, ?_, h3, h4⟩
      rw [← r2]
      conv => rhs; unfold sRT
      rw [show bt (tL (m 87) t) k = false from e']; rfl
theorem owesM_eq {m : JMu} (g : GA (m 87)) {t : Nat} (ht : t < nT (m 87)) : ∃ m', f9_owes (nI t) m = some (sOwes (m 87) t, m') ∧ m' 87 = m 87 ∧ eM m m' :=
  owesM_loop 24 jN 0 m g ht (by omega) (by unfold jN; omega)
/-- the class: rents, sharers, owes -/
theorem owesC_eq {c : JMu} {h : Nat} {A : Nat → Int32} (hh : jH h) (hc : HC c h A) (g : GA A) {t : Nat} (ht : t < nT A) :
    ∃ c', f0_rentTogether h (tL A t) c = some (sRT A (tL A t) 24, c') ∧ f0_sharersWith h (nI t) c' = some (nI (oth A t)) ∧ f6_owesBy (h + 2 + t) (sRT A (tL A t) 24) (nI (oth A t)) c' = some (sOwes A t) ∧ HC c' h A ∧ eH h c c' := by
  have g2 := (g_n g).2
  obtain ⟨c', r, h1, h2⟩ := rentT_eq hh hc g (tL A t)
  refine ⟨c', r, sharers_eq hh h1 g ht, ?_, h1, h2⟩
  obtain ⟨k1, k2⟩ := kd_eq g ht
  rw [owesBy_k (tn_obj hh (by omega)) ((h1.2.2.2.2.1 t 0 ht (by omega)).trans k1) k2 (by have := oth_le A t; omega), h1.2.2.2.2.1 t 1 ht (by omega)]; rfl
-- how much it can be
theorem jmm (x : Int32) : 0 ≤ (jmax 0 (jmin 99 x)).toInt ∧ (jmax 0 (jmin 99 x)).toInt ≤ 99 := by
  have z0 : (0 : Int32).toInt = 0 := rfl
  have z9 : (99 : Int32).toInt = 99 := rfl
  unfold jmax jmin
  repeat' split
  all_goals (simp only [fa_lt, z0, z9] at *; omega)
theorem sRT_b (A : Nat → Int32) (cells : Int32) : ∀ k, k ≤ 24 → 0 ≤ (sRT A cells k).toInt ∧ (sRT A cells k).toInt ≤ 99 * (k : Int)
  | 0, _ => by unfold sRT; decide
  | k + 1, hk => by
    have ih := sRT_b A cells k (by omega)
    unfold sRT
    split
    · have j := jmm (if cdL A 158 = [] then 1 + (nI (k % 8)) / 4 else evL (nI (k / 8)) (nI (k % 8)) (nI (pcI (sHold A ((1 : Int32) <<< (nI k &&& 31))))) (cdL A 158) 0 (fun _ => 0))
      have : 0 ≤ (sRent A k).toInt ∧ (sRent A k).toInt ≤ 99 := j
      rw [fb_addI (by omega) (by omega)]
      omega
    · omega
theorem divI {x : Int32} {d : Nat} (h1 : 0 ≤ x.toInt) (hd : 0 < d) (hd2 : d < 2 ^ 31) : (x / nI d).toInt = x.toInt / (d : Int) := by
  have r := fb_rng x
  have e : x = nI x.toInt.toNat := by rw [fa_eq, nI_toInt (by omega)]; omega
  rw [e, pk_div (by omega) hd hd2, nI_toInt (by have := Nat.div_le_self x.toInt.toNat d; omega), nI_toInt (by omega)]
  rfl
theorem owes_b {k o q : Nat} {v : Int32} (h1 : 0 ≤ v.toInt) (h2 : v.toInt ≤ 2376) (hq : q ≤ 9) (ho : o ≤ 40) : 0 ≤ (owesK k (nI q) v o).toInt ∧ (owesK k (nI q) v o).toInt ≤ 2400 := by
  have hq2 : (nI q).toInt = (q : Int) := nI_toInt (by omega)
  have d2 : (v / 2).toInt = v.toInt / 2 := divI (d := 2) h1 (by omega) (by omega)
  have d10 : (v / 10).toInt = v.toInt / 10 := divI (d := 10) h1 (by omega) (by omega)
  unfold owesK
  split
  · omega
  · split
    · rw [fb_addI (by omega) (by omega)]; omega
    · split
      · rw [fb_subI (by omega) (by omega)]; omega
      · split
        · have := divI (x := v / 2) (d := 1 + o) (by omega) (by omega) (by omega)
          rw [this, d2]
          constructor
          · exact Int.ediv_nonneg (by omega) (by omega)
          · exact Int.le_trans (Int.ediv_le_self _ (by omega)) (by omega)
        · split
          · have e1 : (v - v / 10).toInt = v.toInt - v.toInt / 10 := by rw [fb_subI (by omega) (by omega)]; omega
            have e2 : (v - v / 10 - nI q).toInt = v.toInt - v.toInt / 10 - q := by rw [fb_subI (by omega) (by omega)]; omega
            have z0 : (0 : Int32).toInt = 0 := rfl
            unfold jmax
            split
            · rename_i hx; rw [fa_lt] at hx; omega
            · omega
          · omega
theorem sOwes_b {A : Nat → Int32} (g : GA A) {t : Nat} (ht : t < nT A) : 0 ≤ (sOwes A t).toInt ∧ (sOwes A t).toInt ≤ 2400 := by
  obtain ⟨q, q1, q2⟩ := g_m g ht
  have g2 := (g_n g).2
  obtain ⟨b1, b2⟩ := sRT_b A (tL A t) 24 (by omega)
  unfold sOwes
  rw [q2]
  exact owes_b b1 (by simpa using b2) q1 (by have := oth_le A t; omega)

/-! A LAW WORKED OUT, the class's pile and the check's -/
theorem is_some {α : Type} {o : Option α} (v : α) (h : o.isSome = true) : o = some (o.getD v) := by
  cases o with
  | none => simp at h
  | some x => rfl
def opV (t : Nat) (a b : Int32) : Int32 := (f9_done (nI t) a b).getD 0
theorem done_eq (t : Nat) (a b : Int32) : f9_done (nI t) a b = some (opV t a b) := by
  apply is_some
  unfold f9_done
  repeat' split
  all_goals first
    | rfl
    | contradiction
theorem join_eq {t : Nat} (h : 20000 ≤ t) (h2 : t < 20010) (a b : Int32) : f1_join (-(tokI t)) a b = some (opV t a b) := by
  rw [← done_eq]
  have e : t = 20000 ∨ t = 20001 ∨ t = 20002 ∨ t = 20003 ∨ t = 20004 ∨ t = 20005 ∨ t = 20006 ∨ t = 20007 ∨ t = 20008 ∨ t = 20009 := by omega
  rcases e with rfl | rfl | rfl | rfl | rfl | rfl | rfl | rfl | rfl | rfl <;>
    simp (decide := true) [tokI, f1_join, f9_done, nI]
def nmV (t : Nat) (x y z : Int32) : Int32 := if t < 10000 then nI t else if t = 10000 then x else if t = 10001 then y else z
def evL (x y z : Int32) : List Nat → Nat → (Nat → Int32) → Int32
  | [], _, S => S 0
  | t :: l, d, S =>
    if t < 10003 then evL x y z l (d + 1) (up1 S d (nmV t x y z))
    else if t = 20010 then evL x y z l d (up1 S (d - 1) (if S (d - 1) = 0 then 1 else 0))
    else evL x y z l (d - 1) (up1 S (d - 2) (opV t (S (d - 2)) (S (d - 1))))
theorem tok_hi {t : Nat} (h : t < 10003) : ¬ tokI t < -3 := by
  by_cases e : t < 10000
  · unfold tokI
    rw [if_pos e, fa_lt, nI_toInt (by omega)]
    show ¬ (_ < (-3 : Int)); omega
  · have : t = 10000 ∨ t = 10001 ∨ t = 10002 := by omega
    rcases this with rfl | rfl | rfl <;> decide
theorem tok_lo {t : Nat} (h : 20000 ≤ t) (h2 : t < 20011) : tokI t < -3 ∧ (tokI t = -33 ↔ t = 20010) := by
  have e : t = 20000 ∨ t = 20001 ∨ t = 20002 ∨ t = 20003 ∨ t = 20004 ∨ t = 20005 ∨ t = 20006 ∨ t = 20007 ∨ t = 20008 ∨ t = 20009 ∨ t = 20010 := by omega
  rcases e with rfl | rfl | rfl | rfl | rfl | rfl | rfl | rfl | rfl | rfl | rfl <;> decide
theorem valueOf_eq {t : Nat} (h : t < 10003) (x y z : Int32) : f1_valueOf (tokI t) x y z = some (nmV t x y z) := by
  unfold f1_valueOf nmV
  by_cases e : t < 10000
  · have : tokI t = nI t := by unfold tokI; rw [if_pos e]
    rw [this, if_neg (nI_pos (by omega)), if_pos e]
  · have : t = 10000 ∨ t = 10001 ∨ t = 10002 := by omega
    rcases this with rfl | rfl | rfl
    · rfl
    · rfl
    · rfl
theorem get_in {p n s k : Nat} {c : JMu} (hp : jRow p n) (hn : n < 2 ^ 31) (hs : c p 1 = nI s) (h1 : k < s) (h2 : s ≤ n) : f3_get p (nI k) c = some (c (p + 1) k) := by
  obtain ⟨a1, a2, a3, a4⟩ := hp
  unfold f3_get
  rw [if_pos a1, if_neg (nI_pos (by omega)), hs, if_neg (by rw [nI_leI (by omega) (by omega)]; omega), a2, if_pos a3, a4,
    if_neg (by show ¬ nI n ≤ nI k; rw [nI_leI (by omega) (by omega)]; omega), if_pos (jin_nI (by omega) hn), nI_clamp (by omega)]
theorem drop_cons {L l : List Nat} {k t : Nat} (h : L.drop k = t :: l) : k < L.length ∧ L.getD k 0 = t ∧ L.drop (k + 1) = l := by
  have hk : k < L.length := by
    apply Nat.lt_of_not_le
    intro q
    rw [List.drop_of_length_le q] at h
    exact absurd h (by simp)
  rw [List.drop_eq_getElem_cons hk] at h
  injection h with h1 h2
  refine ⟨hk, ?_, h2⟩
  rw [List.getD_eq_getElem?_getD, List.getElem?_eq_getElem hk]; exact h1
theorem drop_nil {L : List Nat} {k : Nat} (h : L.drop k = []) : L.length ≤ k := by simpa using h
theorem work_loop {p : Nat} (hp : jLaw p) (x y z : Int32) (L : List Nat) (h50 : L.length ≤ 50) : ∀ (l : List Nat) (k d n : Nat) (c : JMu) (S : Nat → Int32),
    L.drop k = l → (c (p + 1) 1 = nI L.length ∧ ∀ j, j < L.length → c (p + 2) j = tokI (L.getD j 0)) → l.length < n → dpl l d = some 1 → (∀ i, i < d → c (p + 3) i = S i) → d ≤ k → k ≤ 50 →
    ∃ c', f1_workOut_b6 p n x y z (nI d) (nI k) c = some (evL x y z l d S, c') ∧ ∀ q, q ≠ p + 3 → c' q = c q := by
  obtain ⟨b1, b2, b3, b4, b5, a1, a2, a3, a4⟩ := hp
  intro l
  induction l with
  | nil =>
    intro k d n c S hd ht hn hdp hS hdk hk
    obtain ⟨n, rfl⟩ : ∃ n', n = n' + 1 := ⟨n - 1, by simp at hn; omega⟩
    have d1 : d = 1 := by simpa [dpl] using hdp
    subst d1
    refine ⟨c, ?_, fun q _ => rfl⟩
    have := drop_nil hd
    unfold f1_workOut_b6
    rw [b2, b3, if_pos a1, ht.1, if_pos (by rw [nI_leI (by omega) (by omega)]; omega), if_pos (by decide), if_pos b4, b5, if_pos (by decide)]
    show some (c (p + 3) 0, c) = _
    rw [hS 0 (by omega)]; rfl
  | cons t l ih =>
    intro k d n c S hd ht hn hdp hS hdk hk
    obtain ⟨n, rfl⟩ : ∃ n', n = n' + 1 := ⟨n - 1, by simp at hn; omega⟩
    obtain ⟨k1, k2, k3⟩ := drop_cons hd
    have k50 : k < 50 := by omega
    have key : f3_get (p + 1) (nI k) c = some (tokI t) := by
      rw [get_in (n := 50) ⟨a1, a2, a3, a4⟩ (by omega) ht.1 k1 h50, show p + 1 + 1 = p + 2 from rfl, ht.2 k k1, k2]
    have up : ∀ (i : Nat) (v : Int32), (jup c (p + 3) i v) (p + 1) 1 = nI L.length ∧ ∀ j, j < L.length → (jup c (p + 3) i v) (p + 2) j = tokI (L.getD j 0) := by
      intro i v
      rw [jup_row (by omega), jup_row (by omega)]; exact ht
    have fin : ∀ (i : Nat) (v : Int32) (c' : JMu), (∀ q, q ≠ p + 3 → c' q = jup c (p + 3) i v q) → ∀ q, q ≠ p + 3 → c' q = c q := by
      intro i v c' h q hq
      rw [h q hq, jup_row hq]
    have ln : l.length < n := by simp at hn; omega
    unfold f1_workOut_b6
    rw [b2, b3, if_pos a1, ht.1, if_neg (by rw [nI_leI (by omega) (by omega)]; omega), key]
    show ∃ c', (if tokI t < -3 then _ else _) = _ ∧ _
    unfold evL
    unfold dpl at hdp
    by_cases h1 : t < 10003
    · rw [if_pos h1] at hdp ⊢
      rw [if_neg (tok_hi h1), if_pos b4, b5, if_pos (by show nI d < nI 50; rw [ltI (by omega) (by omega)]; omega), valueOf_eq h1]
      show ∃ c', (if jin (nI d) 50 = true then _ else _) = _ ∧ _
      rw [if_pos (jin_nI (by omega) (by omega)), nI_clamp (by omega), nI_1, nI_1]
      obtain ⟨c', r, e⟩ := ih (k + 1) (d + 1) n (jup c (p + 3) d (nmV t x y z)) (up1 S d (nmV t x y z)) k3 (up _ _) ln hdp (by
        intro i hi
        rw [jup_rs]; unfold up1
        by_cases e : i = d
        · simp [e]
        · rw [if_neg e, if_neg e]; exact hS i (by omega)) (by omega) (by omega)
      exact ⟨c', r, fin _ _ _ e⟩
    · rw [if_neg h1] at hdp ⊢
      by_cases h2 : t = 20010
      · rw [if_pos h2] at hdp ⊢
        obtain ⟨l1, l2⟩ := tok_lo (t := t) (by omega) (by omega)
        rw [if_pos l1, if_pos (l2.mpr h2)]
        by_cases h3 : d < 1
        · rw [if_pos h3] at hdp; exact absurd hdp (by simp)
        · rw [if_neg h3] at hdp
          obtain ⟨d, rfl⟩ : ∃ d', d = d' + 1 := ⟨d - 1, by omega⟩
          rw [if_pos (by show nI 1 ≤ _; rw [nI_leI (by omega) (by omega)]; omega), if_pos b4, b5, nI_pred, if_pos (jin_nI (by omega) (by omega)), nI_clamp (by omega), hS d (by omega)]
          have st : ∀ v : Int32, f1_workOut_b109 p (f1_workOut_b6 p n) x y z (nI (d + 1)) (nI k) v (nI d) (p + 3) c = f1_workOut_b6 p n x y z (nI (d + 1)) (nI (k + 1)) (jup c (p + 3) d (if v = 0 then 0 else 1)) := by
            intro v
            unfold f1_workOut_b109 f1_asInt
            have : (if v = 0 then some (0 : Int32) else some 1) = some (if v = 0 then 0 else 1) := by split <;> rfl
            rw [this]
            show (if jI cPl (p + 3) = true then _ else _) = _
            rw [if_pos b4, b5, if_pos (jin_nI (by omega) (by omega)), nI_clamp (by omega), nI_1]
          rw [st, st]
          have st2 : (if S d = 0 then f1_workOut_b6 p n x y z (nI (d + 1)) (nI (k + 1)) (jup c (p + 3) d (if (1 : Int32) = 0 then 0 else 1)) else f1_workOut_b6 p n x y z (nI (d + 1)) (nI (k + 1)) (jup c (p + 3) d (if (0 : Int32) = 0 then 0 else 1))) = f1_workOut_b6 p n x y z (nI (d + 1)) (nI (k + 1)) (jup c (p + 3) d (if S d = 0 then 1 else 0)) := by
            by_cases q : S d = 0
            · rw [if_pos q, if_pos q]; rfl
            · rw [if_neg q, if_neg q]; rfl
          rw [st2]
          obtain ⟨c', r, e⟩ := ih (k + 1) (d + 1) n (jup c (p + 3) d (if S d = 0 then 1 else 0)) (up1 S d (if S d = 0 then 1 else 0)) k3 (up _ _) ln hdp (by
            intro i hi
            rw [jup_rs]; unfold up1
            by_cases e : i = d
            · simp [e]
            · rw [if_neg e, if_neg e]; exact hS i (by omega)) (by omega) (by omega)
          exact ⟨c', r, fin _ _ _ e⟩
      · rw [if_neg h2] at hdp ⊢
        by_cases h3 : 20000 ≤ t ∧ t < 20010
        · rw [if_pos h3] at hdp
          obtain ⟨l1, l2⟩ := tok_lo (t := t) (by omega) (by omega)
          rw [if_pos l1, if_neg (by rw [l2]; exact h2)]
          by_cases h4 : d < 2
          · rw [if_pos h4] at hdp; exact absurd hdp (by simp)
          · rw [if_neg h4] at hdp
            obtain ⟨d, rfl⟩ : ∃ d', d = d' + 2 := ⟨d - 2, by omega⟩
            rw [if_pos (by show nI 2 ≤ _; rw [nI_leI (by omega) (by omega)]; omega), if_pos b4, b5, pk_m1, nI_pred, if_pos (jin_nI (by omega) (by omega)), if_pos (jin_nI (by omega) (by omega)), nI_clamp (by omega), nI_clamp (by omega), hS d (by omega), hS (d + 1) (by omega), join_eq h3.1 h3.2]
            show ∃ c', (if jin (nI d) 50 = true then _ else _) = _ ∧ _
            rw [if_pos (jin_nI (by omega) (by omega)), nI_1]
            obtain ⟨c', r, e⟩ := ih (k + 1) (d + 1) n (jup c (p + 3) d (opV t (S d) (S (d + 1)))) (up1 S d (opV t (S d) (S (d + 1)))) k3 (up _ _) ln hdp (by
              intro i hi
              rw [jup_rs]; unfold up1
              by_cases e : i = d
              · simp [e]
              · rw [if_neg e, if_neg e]; exact hS i (by omega)) (by omega) (by omega)
            exact ⟨c', r, fin _ _ _ e⟩
        · rw [if_neg h3] at hdp; exact absurd hdp (by simp)
theorem worked_loop (a : Nat) (ha : a ≤ 158) (x y z : Int32) (L : List Nat) (h50 : L.length ≤ 50) : ∀ (l : List Nat) (k d n : Nat) (m : JMu) (S : Nat → Int32),
    L.drop k = l → (m 87 a = nI L.length ∧ ∀ j, j < L.length → m 87 (a + 1 + j) = nI (L.getD j 0) ∧ L.getD j 0 < 20011) → (m 93 0 = x ∧ m 93 1 = y ∧ m 93 2 = z) → l.length < n → dpl l d = some 1 → (∀ i, i < d → m 94 i = S i) → d ≤ k → k ≤ 50 →
    ∃ m', f9_worked_b4 n (nI (a + 1)) (nI d) (nI (a + 1 + k)) m = some (evL x y z l d S, m') ∧ ∀ q, q ≠ 94 → m' q = m q := by
  intro l
  induction l with
  | nil =>
    intro k d n m S hd ht hx hn hdp hS hdk hk
    obtain ⟨n, rfl⟩ : ∃ n', n = n' + 1 := ⟨n - 1, by simp at hn; omega⟩
    have d1 : d = 1 := by simpa [dpl] using hdp
    subst d1
    refine ⟨m, ?_, fun q _ => rfl⟩
    have := drop_nil hd
    unfold f9_worked_b4
    rw [nI_pred, if_pos (jin_nI (by omega) (by omega)), nI_clamp (by omega), ht.1, nI_add, if_pos (by rw [nI_leI (by omega) (by omega)]; omega)]
    show some (m 94 0, m) = _
    rw [hS 0 (by omega)]; rfl
  | cons t l ih =>
    intro k d n m S hd ht hx hn hdp hS hdk hk
    obtain ⟨n, rfl⟩ : ∃ n', n = n' + 1 := ⟨n - 1, by simp at hn; omega⟩
    obtain ⟨k1, k2, k3⟩ := drop_cons hd
    have k50 : k < 50 := by omega
    obtain ⟨t1, t2⟩ := ht.2 k k1
    rw [k2] at t1 t2
    have up : ∀ (i : Nat) (v : Int32), (jup m 94 i v) 87 a = nI L.length ∧ ∀ j, j < L.length → (jup m 94 i v) 87 (a + 1 + j) = nI (L.getD j 0) ∧ L.getD j 0 < 20011 := by
      intro i v
      rw [jup_row (by omega)]; exact ht
    have upx : ∀ (i : Nat) (v : Int32), (jup m 94 i v) 93 0 = x ∧ (jup m 94 i v) 93 1 = y ∧ (jup m 94 i v) 93 2 = z := by
      intro i v
      rw [jup_row (by omega)]; exact hx
    have fin : ∀ (i : Nat) (v : Int32) (c' : JMu), (∀ q, q ≠ 94 → c' q = jup m 94 i v q) → ∀ q, q ≠ 94 → c' q = m q := by
      intro i v c' h q hq
      rw [h q hq, jup_row hq]
    have ln : l.length < n := by simp at hn; omega
    unfold f9_worked_b4
    rw [nI_pred, if_pos (jin_nI (by omega) (by omega)), nI_clamp (n := a) (by omega), ht.1, nI_add, if_neg (by rw [nI_leI (by omega) (by omega)]; omega), if_pos (jin_nI (by omega) (by omega)), nI_clamp (n := a + 1 + k) (by omega), t1]
    unfold evL
    unfold dpl at hdp
    by_cases h1 : t < 10003
    · rw [if_pos h1] at hdp ⊢
      rw [if_neg (by show ¬ nI 20000 ≤ nI t; rw [nI_leI (by omega) (by omega)]; omega)]
      have st : ∀ v, f9_worked_b63 (f9_worked_b4 n) (nI (a + 1)) (nI d) (nI (a + 1 + k)) v (nI d) m = f9_worked_b4 n (nI (a + 1)) (nI (d + 1)) (nI (a + 1 + (k + 1))) (jup m 94 d v) := by
        intro v
        unfold f9_worked_b63
        rw [if_pos (jin_nI (by omega) (by omega)), nI_clamp (by omega), nI_1, nI_1]; rfl
      have st2 : (if (10000 : Int32) ≤ nI t then (if jin (nI t - 10000) 4 = true then f9_worked_b63 (f9_worked_b4 n) (nI (a + 1)) (nI d) (nI (a + 1 + k)) (m 93 (nI t - 10000).toNatClampNeg) (nI d) m else none) else f9_worked_b63 (f9_worked_b4 n) (nI (a + 1)) (nI d) (nI (a + 1 + k)) (nI t) (nI d) m) = f9_worked_b4 n (nI (a + 1)) (nI (d + 1)) (nI (a + 1 + (k + 1))) (jup m 94 d (nmV t x y z)) := by
        unfold nmV
        by_cases q : t < 10000
        · rw [if_neg (by show ¬ nI 10000 ≤ nI t; rw [nI_leI (by omega) (by omega)]; omega), st, if_pos q]
        · rw [if_pos (by show nI 10000 ≤ nI t; rw [nI_leI (by omega) (by omega)]; omega), if_neg q]
          have : t = 10000 ∨ t = 10001 ∨ t = 10002 := by omega
          rcases this with rfl | rfl | rfl
          · rw [if_pos (by decide), show (nI 10000 - (10000 : Int32)).toNatClampNeg = 0 by decide, st, hx.1]; rfl
          · rw [if_pos (by decide), show (nI 10001 - (10000 : Int32)).toNatClampNeg = 1 by decide, st, hx.2.1]; rfl
          · rw [if_pos (by decide), show (nI 10002 - (10000 : Int32)).toNatClampNeg = 2 by decide, st, hx.2.2]; rfl
      rw [st2]
      obtain ⟨c', r, e⟩ := ih (k + 1) (d + 1) n (jup m 94 d (nmV t x y z)) (up1 S d (nmV t x y z)) k3 (up _ _) (upx _ _) ln hdp (by
        intro i hi
        rw [jup_rs]; unfold up1
        by_cases e : i = d
        · simp [e]
        · rw [if_neg e, if_neg e]; exact hS i (by omega)) (by omega) (by omega)
      exact ⟨c', r, fin _ _ _ e⟩
    · rw [if_neg h1] at hdp ⊢
      by_cases h2 : t = 20010
      · rw [if_pos h2] at hdp ⊢
        subst h2
        rw [if_pos (by decide), if_pos (by decide)]
        by_cases h3 : d < 1
        · rw [if_pos h3] at hdp; exact absurd hdp (by simp)
        · rw [if_neg h3] at hdp
          obtain ⟨d, rfl⟩ : ∃ d', d = d' + 1 := ⟨d - 1, by omega⟩
          rw [nI_pred, if_pos (jin_nI (by omega) (by omega)), nI_clamp (n := d) (by omega), hS d (by omega)]
          have st : ∀ v : Int32, f9_worked_b101 (f9_worked_b4 n) (nI (a + 1)) (nI (d + 1)) (nI (a + 1 + k)) v (nI d) m = f9_worked_b4 n (nI (a + 1)) (nI (d + 1)) (nI (a + 1 + (k + 1))) (jup m 94 d v) := by
            intro v
            unfold f9_worked_b101
            rw [if_pos (jin_nI (by omega) (by omega)), nI_clamp (by omega), nI_1]; rfl
          rw [st, st]
          have st2 : (if S d = 0 then f9_worked_b4 n (nI (a + 1)) (nI (d + 1)) (nI (a + 1 + (k + 1))) (jup m 94 d 1) else f9_worked_b4 n (nI (a + 1)) (nI (d + 1)) (nI (a + 1 + (k + 1))) (jup m 94 d 0)) = f9_worked_b4 n (nI (a + 1)) (nI (d + 1)) (nI (a + 1 + (k + 1))) (jup m 94 d (if S d = 0 then 1 else 0)) := by
            by_cases q : S d = 0
            · rw [if_pos q, if_pos q]
            · rw [if_neg q, if_neg q]
          rw [st2]
          obtain ⟨c', r, e⟩ := ih (k + 1) (d + 1) n (jup m 94 d (if S d = 0 then 1 else 0)) (up1 S d (if S d = 0 then 1 else 0)) k3 (up _ _) (upx _ _) ln hdp (by
            intro i hi
            rw [jup_rs]; unfold up1
            by_cases e : i = d
            · simp [e]
            · rw [if_neg e, if_neg e]; exact hS i (by omega)) (by omega) (by omega)
          exact ⟨c', r, fin _ _ _ e⟩
      · rw [if_neg h2] at hdp ⊢
        by_cases h3 : 20000 ≤ t ∧ t < 20010
        · rw [if_pos h3] at hdp
          rw [if_pos (by show nI 20000 ≤ nI t; rw [nI_leI (by omega) (by omega)]; omega), if_neg (by show ¬ nI t = nI 20010; rw [nI_eq (by omega) (by omega)]; exact h2)]
          by_cases h4 : d < 2
          · rw [if_pos h4] at hdp; exact absurd hdp (by simp)
          · rw [if_neg h4] at hdp
            obtain ⟨d, rfl⟩ : ∃ d', d = d' + 2 := ⟨d - 2, by omega⟩
            rw [pk_m1, nI_pred, if_pos (jin_nI (by omega) (by omega)), if_pos (jin_nI (by omega) (by omega)), nI_clamp (n := d) (by omega), nI_clamp (n := d + 1) (by omega), hS d (by omega), hS (d + 1) (by omega), done_eq]
            show ∃ c', (if jin (nI d) 60 = true then _ else _) = _ ∧ _
            rw [if_pos (jin_nI (by omega) (by omega)), nI_1]
            obtain ⟨c', r, e⟩ := ih (k + 1) (d + 1) n (jup m 94 d (opV t (S d) (S (d + 1)))) (up1 S d (opV t (S d) (S (d + 1)))) k3 (up _ _) (upx _ _) ln hdp (by
              intro i hi
              rw [jup_rs]; unfold up1
              by_cases e : i = d
              · simp [e]
              · rw [if_neg e, if_neg e]; exact hS i (by omega)) (by omega) (by omega)
            exact ⟨c', r, fin _ _ _ e⟩
        · rw [if_neg h3] at hdp; exact absurd hdp (by simp)

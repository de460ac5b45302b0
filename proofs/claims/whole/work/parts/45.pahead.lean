/-! OTHER NIGHTS: OFTEN, WHOLE, CHECK, WAS -/
def atN (A : Nat → Int32) (n : Nat) : Nat → Int32 := up1 A 0 (nI n)
theorem GA_atN {A : Nat → Int32} (g : GA A) {n : Nat} (h : n < 2 ^ 29) : GA (atN A n) := GA_hd g (Or.inl ⟨rfl, n, h, rfl⟩)
theorem nN_atN (A : Nat → Int32) {n : Nat} (h : n < 2 ^ 29) : nN (atN A n) = n := by unfold nN atN; rw [up1_self, nI_clamp (by omega)]
theorem nT_atN (A : Nat → Int32) (n : Nat) : nT (atN A n) = nT A := nT_up _ _ (by omega)
theorem atN_ne (A : Nat → Int32) (n : Nat) {j : Nat} (h : j ≠ 0) : atN A n j = A j := up1_ne _ _ h
theorem atN_atN (A : Nat → Int32) (n n' : Nat) : up1 (atN A n) 0 (nI n') = atN A n' := by funext j; unfold atN up1; by_cases e : j = 0 <;> simp [e]
theorem atN_back {A : Nat → Int32} (g : GA A) (n : Nat) : up1 (atN A n) 0 (A 0) = A := by funext j; unfold atN up1; by_cases e : j = 0 <;> simp [e]
theorem atN_now {A : Nat → Int32} (g : GA A) : atN A (nN A) = A := up1_same (g_0 g).1
theorem seen_atN (A : Nat → Int32) (n x : Nat) : sSeen (atN A n) x = sSeen A x := sSeen_cong (atN_ne A n (by omega)) (fun j hj => atN_ne A n (by omega)) x
theorem look_atN (A : Nat → Int32) (n t x : Nat) : sLook (atN A n) t x = sLook A t x := by
  unfold sLook kd
  rw [atN_ne A n (by omega), atN_ne A n (by omega), atN_ne A n (by omega)]
theorem seenAt {m : JMu} {A : Nat → Int32} (g : GA A) {n : Nat} (hn : n < 2 ^ 29) (h : m 87 = atN A n) : ∃ m', f9_seenNow m = some (sSeen A n, m') ∧ m' 87 = atN A n ∧ eM m m' := by
  obtain ⟨m', r, h1, h2⟩ := seenNow_eq (m := m) (by rw [h]; exact GA_atN g hn)
  rw [h, nN_atN A hn, seen_atN] at r
  exact ⟨m', r, h1.trans h, h2⟩
theorem often_loop {c0 m0 : JMu} (r : R c0 m0) {t : Nat} (ht : t < nT (m0 87)) (N : Nat) (hN : N ≤ 100) : ∀ d n k (c m : JMu) (v : Int32), HC c 1 (m0 87) → m 87 = atN (m0 87) (nN (m0 87) + k) → eH 1 c0 c → eM m0 m → k + d = N → d < n →
    Ans (f8_often_b36 n (nI N) (1 + 2 + t) v (nI k) c) (f9_often_b38 n (nI t) (nI N) (m0 87 0) v (nI k) m) := by
  have g := r.2.1
  have n9 := r.2.2.1
  have g2 := (g_n g).2
  intro d
  induction d with
  | zero =>
    intro n k c m v h1 h2 h3 h4 hk hd
    obtain ⟨n, rfl⟩ : ∃ n', n = n' + 1 := ⟨n - 1, by omega⟩
    unfold f8_often_b36 f9_often_b38
    rw [if_pos (by rw [nI_leI (by omega) (by omega)]; omega), if_pos (by rw [nI_leI (by omega) (by omega)]; omega)]
    exact ⟨_, _, _, rfl, rfl, R_look r h1 h3 (by rw [jup_rs, h2]; exact atN_back g _) (eM_tr h4 (eM_up _ _ _))⟩
  | succ d ih =>
    intro n k c m v h1 h2 h3 h4 hk hd
    obtain ⟨n, rfl⟩ : ∃ n', n = n' + 1 := ⟨n - 1, by omega⟩
    have e0 : c 1 0 + nI k = nI (nN (m0 87) + k) := by rw [h1.1, (g_0 g).1, nI_add]
    obtain ⟨c1, a1, a2, a3⟩ := seenIn_eq jH1 h1 g (n := nN (m0 87) + k) (by omega)
    obtain ⟨m1, b1, b2, b3⟩ := seenAt g (n := nN (m0 87) + k) (by omega) h2
    have l1 := looksIn_eq jH1 h1 g ht (n := nN (m0 87) + k) (by omega)
    have l2 := looks_eq (m := m1) (by rw [b2]; exact GA_atN g (by omega)) (t := t) (by rw [b2, nT_atN]; exact ht)
    rw [b2, nN_atN _ (by omega), look_atN] at l2
    have hm2 : (jup m1 87 0 (nI (nN (m0 87) + (k + 1)))) 87 = atN (m0 87) (nN (m0 87) + (k + 1)) := by rw [jup_rs, b2, atN_atN]
    have nx : ∀ (c' : JMu) (v : Int32), HC c' 1 (m0 87) → eH 1 c0 c' → Ans (f8_often_b36 n (nI N) (1 + 2 + t) v (nI (k + 1)) c') (f9_often_b38 n (nI t) (nI N) (m0 87 0) v (nI (k + 1)) (jup m1 87 0 (nI (nN (m0 87) + (k + 1))))) := fun c' v x1 x2 =>
      ih n (k + 1) c' _ v x1 hm2 x2 (eM_tr (eM_tr h4 b3) (eM_up _ _ _)) (by omega) (by omega)
    have m10 : m1 87 0 + 1 = nI (nN (m0 87) + (k + 1)) := by rw [b2]; unfold atN; rw [up1_self, nI_1]; rfl
    have kk : ¬ nI N ≤ nI k := by rw [nI_leI (by omega) (by omega)]; omega
    unfold f8_often_b36 f9_often_b38 f9_often_b72 f9_often_b73
    rw [if_neg kk, if_neg kk, if_pos (tn1 (by omega)), e0, l1, ob, a1, ob, ten2 m (by omega), ob, b1, ob, nI_1]
    dsimp only
    rw [l2, ob, m10, add0, h1.2.2.2.2.1 t 2 ht (by omega), h2, atN_ne _ _ (by omega)]
    by_cases x1 : sLook (m0 87) t (nN (m0 87) + k) = 0
    · by_cases x2 : m0 87 (6 + 5 * t + 2) &&& sSeen (m0 87) (nN (m0 87) + k) = 0
      · rw [if_pos x1, if_pos x2]; exact nx c v h1 h3
      · rw [if_pos x1, if_neg x2, if_pos x1]; exact nx c v h1 h3
    · by_cases x2 : m0 87 (6 + 5 * t + 2) &&& sSeen (m0 87) (nN (m0 87) + k) = 0
      · rw [if_neg x1, if_pos x2, if_pos x2]; exact nx c1 v a2 (eH_tr h3 a3)
      · rw [if_neg x1, if_neg x2, if_neg x2, if_neg x1]; exact nx c1 _ a2 (eH_tr h3 a3)
theorem act_often {c m : JMu} (r : R c m) (x y : Int32) : Ans (f8_often x y c) (f9_often x y m) := by
  unfold f8_often f9_often f8_often_b23 f9_often_b18
  rcases ten_two r x with ⟨h1, h2⟩ | ⟨t, ht, rfl, h1, h2⟩
  · rw [h1, h2, ob, ob, if_pos rfl]; exact ans_err1 r
  · rw [h1, h2, ob, ob, if_neg i10, within_eq, ob]
    dsimp only
    rw [outside_eq, ob]
    rcases rng y 1 100 (by omega) (by omega) with h | ⟨h, N, h3, h4, rfl⟩
    · have h : y < 1 ∨ 100 < y := h
      rw [if_pos h, if_pos h, if_neg i10, if_pos rfl]; exact ans_err1 r
    · have h : ¬ (nI N < 1 ∨ 100 < nI N) := h
      rw [if_neg h, if_neg h, if_pos rfl, if_neg i10]
      exact often_loop r ht N h4 N jN 0 c m 0 r.1 (atN_now r.2.1).symm (eH_rf _ _) (eM_rf _) (by omega) (by unfold jN; omega)
theorem sub_bits (x s : Int32) : (x &&& (s ^^^ (-1)) = 0) ↔ x &&& s = x := by
  constructor
  · intro h
    apply b_ext
    intro i hi
    have e : bt (x &&& (s ^^^ (-1))) i = bt 0 i := by rw [h]
    rw [b_and, b_xor, b_m1 i hi, b_0] at e
    rw [b_and]
    revert e
    cases bt x i <;> cases bt s i <;> decide
  · intro h
    apply b_ext
    intro i hi
    have e : bt (x &&& s) i = bt x i := by rw [h]
    rw [b_and] at e
    rw [b_and, b_xor, b_m1 i hi, b_0]
    revert e
    cases bt x i <;> cases bt s i <;> decide
theorem whole_loop {c0 m0 : JMu} (r : R c0 m0) {t : Nat} (ht : t < nT (m0 87)) : ∀ d n k (c m : JMu), HC c 1 (m0 87) → m 87 = atN (m0 87) (nN (m0 87) + k) → eH 1 c0 c → eM m0 m → k + d = 101 → d < n →
    Ans (f8_whole_b36 n (1 + 2 + t) (nI k) c) (f9_whole_b46 n (tL (m0 87) t) (m0 87 0) (-1) (nI k) m) := by
  have g := r.2.1
  have n9 := r.2.2.1
  have g2 := (g_n g).2
  intro d
  induction d with
  | zero =>
    intro n k c m h1 h2 h3 h4 hk hd
    obtain ⟨n, rfl⟩ : ∃ n', n = n' + 1 := ⟨n - 1, by omega⟩
    unfold f8_whole_b36 f9_whole_b46 f9_whole_b92
    rw [if_pos (by show nI 100 < _; rw [ltI (by omega) (by omega)]; omega), if_pos (by show nI 100 < _; rw [ltI (by omega) (by omega)]; omega), if_neg (by decide)]
    exact ans_err2 (R_look r h1 h3 (by rw [jup_rs, h2]; exact atN_back g _) (eM_tr h4 (eM_up _ _ _)))
  | succ d ih =>
    intro n k c m h1 h2 h3 h4 hk hd
    obtain ⟨n, rfl⟩ : ∃ n', n = n' + 1 := ⟨n - 1, by omega⟩
    have e0 : c 1 0 + nI k = nI (nN (m0 87) + k) := by rw [h1.1, (g_0 g).1, nI_add]
    obtain ⟨c1, a1, a2, a3⟩ := seenIn_eq jH1 h1 g (n := nN (m0 87) + k) (by omega)
    obtain ⟨m1, b1, b2, b3⟩ := seenAt g (n := nN (m0 87) + k) (by omega) h2
    have m10 : m1 87 0 + 1 = nI (nN (m0 87) + (k + 1)) := by rw [b2]; unfold atN; rw [up1_self, nI_1]; rfl
    have hm2 : (jup m1 87 0 (nI (nN (m0 87) + (k + 1)))) 87 = atN (m0 87) (nN (m0 87) + (k + 1)) := by rw [jup_rs, b2, atN_atN]
    have kk : ¬ (100 : Int32) < nI k := by show ¬ nI 100 < _; rw [ltI (by omega) (by omega)]; omega
    have k1 : ¬ (0 : Int32) ≤ -1 := by decide
    unfold f8_whole_b36 f9_whole_b46 f9_whole_b74
    rw [if_neg kk, if_neg kk, if_neg k1, if_pos (tn1 (by omega)), e0, a1, ob, b1, ob, nI_1, h1.2.2.2.2.1 t 2 ht (by omega), show m0 87 (6 + 5 * t + 2) = tL (m0 87) t from rfl]
    dsimp only
    rw [m10]
    have key := sub_bits (tL (m0 87) t) (sSeen (m0 87) (nN (m0 87) + k))
    by_cases e : tL (m0 87) t &&& sSeen (m0 87) (nN (m0 87) + k) = tL (m0 87) t
    · rw [if_pos (key.mpr e), if_pos e]
      obtain ⟨n, rfl⟩ : ∃ n', n = n' + 1 := ⟨n - 1, by omega⟩
      have fin : f9_whole_b46 (n + 1) (tL (m0 87) t) (m0 87 0) (nI k) (nI (k + 1)) (jup m1 87 0 (nI (nN (m0 87) + (k + 1)))) = some (nI k, jup (jup m1 87 0 (nI (nN (m0 87) + (k + 1)))) 87 0 (m0 87 0)) := by
        unfold f9_whole_b46 f9_whole_b92
        rw [if_pos (nI_pos' (by omega)), if_pos (nI_pos' (by omega))]
        split <;> rfl
      rw [fin]
      exact ⟨_, _, _, rfl, rfl, R_look r a2 (eH_tr h3 a3) (by rw [jup_rs, hm2]; exact atN_back g _) (eM_tr (eM_tr (eM_tr h4 b3) (eM_up _ _ _)) (eM_up _ _ _))⟩
    · rw [if_neg (by rw [key]; exact e), if_neg e]
      exact ih n (k + 1) c1 _ a2 hm2 (eH_tr h3 a3) (eM_tr (eM_tr h4 b3) (eM_up _ _ _)) (by omega) (by omega)
theorem act_whole {c m : JMu} (r : R c m) (x : Int32) : Ans (f8_whole x c) (f9_whole x m) := by
  have g2 := (g_n r.2.1).2
  unfold f8_whole f9_whole
  rcases ten_two r x with ⟨h1, h2⟩ | ⟨t, ht, rfl, h1, h2⟩
  · rw [h1, h2, ob, ob, if_pos rfl]; exact ans_err1 r
  · rw [h1, h2, ob, ob, if_neg i10, ten2 m (by omega), ob]
    dsimp only
    have c2 := r.1.2.2.2.2.1 t 2 ht (by omega)
    rw [if_pos (tn1 (by omega))]
    by_cases e : m 87 (6 + 5 * t + 2) = 0
    · rw [if_pos (by rw [c2]; exact e), if_pos e]; exact ans_err3 r
    · rw [if_neg (by rw [c2]; exact e), if_neg e]
      exact whole_loop r ht 101 jN 0 c m r.1 (atN_now r.2.1).symm (eH_rf _ _) (eM_rf _) (by omega) (by unfold jN; omega)
-- check
theorem HC_emptyW {c : JMu} {h : Nat} {A : Nat → Int32} (hc : HC c h A) (g : GA A) : HC (jup c (h + 10) 1 0) h (up1 A 4 0) ∧ GA (up1 A 4 0) := by
  have gn := (g_n g).2
  constructor
  · obtain ⟨a1, a2, a3, a4, a5, a6, a7, a8, a9, a10, ⟨a11, a12⟩, a13, ⟨a14, a15⟩⟩ := hc
    have hw : nW (up1 A 4 0) = 0 := by unfold nW; rw [up1_self]; rfl
    unfold HC TXC
    rw [nT_up _ _ (by omega), nB_up _ _ (by omega), hw, cdL_up _ (by omega), cdL_up _ (by omega)]
    refine ⟨?_, ?_, ?_, ?_, ?_, ?_, ?_, ?_, ?_, ?_, ⟨?_, ?_⟩, ?_, ⟨?_, ?_⟩⟩
    · rw [jup_row (by omega), up1_ne _ _ (by omega)]; exact a1
    · rw [jup_row (by omega), up1_ne _ _ (by omega)]; exact a2
    · rw [jup_row (by omega), up1_ne _ _ (by omega)]; exact a3
    · rw [jup_row (by omega), up1_ne _ _ (by omega)]; exact a4
    · intro t f ht hf; rw [jup_row (by omega), up1_ne _ _ (by omega)]; exact a5 t f ht hf
    · rw [jup_row (by omega), up1_ne _ _ (by omega)]; exact a6
    · intro i hi; rw [jup_row (by omega), up1_ne _ _ (by omega)]; exact a7 i hi
    · rw [jup_self, up1_self]
    · intro i hi; omega
    · rw [jup_row (by omega)]; exact a10
    · rw [jup_row (by omega)]; exact a11
    · rw [jup_row (by omega)]; exact a12
    · rw [jup_row (by omega)]; exact a13
    · rw [jup_row (by omega)]; exact a14
    · rw [jup_row (by omega)]; exact a15
  · obtain ⟨h1, h2, h3, h4, ⟨L0, h5⟩, ⟨L1, h6⟩, h7, h8⟩ := g
    refine ⟨by rw [up1_ne _ _ (by omega)]; exact h1, by rw [up1_ne _ _ (by omega)]; exact h2, ⟨0, by omega, by rw [up1_self]; rfl⟩, by rw [up1_ne _ _ (by omega)]; exact h4, ⟨L0, TXA_up _ h5 (by omega)⟩, ⟨L1, TXA_up _ h6 (by omega)⟩, ?_, by rw [up1_ne _ _ (by omega)]; exact h8⟩
    rw [nT_up _ _ (by omega)]
    intro t ht
    rw [up1_ne _ _ (by omega), up1_ne _ _ (by omega), up1_ne _ _ (by omega), up1_ne _ _ (by omega), up1_ne _ _ (by omega)]
    exact h7 t ht
theorem HC_emptyB {c : JMu} {h : Nat} {A : Nat → Int32} (hc : HC c h A) (g : GA A) : HC (jup c (h + 8) 1 0) h (up1 A 3 0) ∧ GA (up1 A 3 0) := by
  have gn := (g_n g).2
  constructor
  · obtain ⟨a1, a2, a3, a4, a5, a6, a7, a8, a9, a10, ⟨a11, a12⟩, a13, ⟨a14, a15⟩⟩ := hc
    have hw : nB (up1 A 3 0) = 0 := by unfold nB; rw [up1_self]; rfl
    unfold HC TXC
    rw [nT_up _ _ (by omega), nW_up _ _ (by omega), hw, cdL_up _ (by omega), cdL_up _ (by omega)]
    refine ⟨?_, ?_, ?_, ?_, ?_, ?_, ?_, ?_, ?_, ?_, ⟨?_, ?_⟩, ?_, ⟨?_, ?_⟩⟩
    · rw [jup_row (by omega), up1_ne _ _ (by omega)]; exact a1
    · rw [jup_row (by omega), up1_ne _ _ (by omega)]; exact a2
    · rw [jup_row (by omega), up1_ne _ _ (by omega)]; exact a3
    · rw [jup_row (by omega), up1_ne _ _ (by omega)]; exact a4
    · intro t f ht hf; rw [jup_row (by omega), up1_ne _ _ (by omega)]; exact a5 t f ht hf
    · rw [jup_self, up1_self]
    · intro i hi; omega
    · rw [jup_row (by omega), up1_ne _ _ (by omega)]; exact a8
    · intro i hi; rw [jup_row (by omega), up1_ne _ _ (by omega)]; exact a9 i hi
    · rw [jup_row (by omega)]; exact a10
    · rw [jup_row (by omega)]; exact a11
    · rw [jup_row (by omega)]; exact a12
    · rw [jup_row (by omega)]; exact a13
    · rw [jup_row (by omega)]; exact a14
    · rw [jup_row (by omega)]; exact a15
  · obtain ⟨h1, h2, h3, h4, ⟨L0, h5⟩, ⟨L1, h6⟩, h7, h8⟩ := g
    refine ⟨by rw [up1_ne _ _ (by omega)]; exact h1, ⟨0, by omega, by rw [up1_self]; rfl⟩, by rw [up1_ne _ _ (by omega)]; exact h3, by rw [up1_ne _ _ (by omega)]; exact h4, ⟨L0, TXA_up _ h5 (by omega)⟩, ⟨L1, TXA_up _ h6 (by omega)⟩, ?_, by rw [up1_ne _ _ (by omega)]; exact h8⟩
    rw [nT_up _ _ (by omega)]
    intro t ht
    rw [up1_ne _ _ (by omega), up1_ne _ _ (by omega), up1_ne _ _ (by omega), up1_ne _ _ (by omega), up1_ne _ _ (by omega)]
    exact h7 t ht
theorem check_loop {c0 m0 : JMu} (r : R c0 m0) : ∀ d n k (c m : JMu) (v : Int32), HC c 1 (m0 87) → m 87 = atN (up1 (m0 87) 4 0) (nN (m0 87) + k) → eH 1 c0 c → eM m0 m → k + d = nW (m0 87) → d < n →
    Ans (f8_check_b4 n v (nI k) c) (f9_check_b26 n (nI (nW (m0 87))) (m0 87 0) v (nI k) m) := by
  have g := r.2.1
  have n9 := r.2.2.1
  obtain ⟨w1, w2⟩ := g_w g
  have fin : ∀ (c m : JMu) (v : Int32) (k : Nat), HC c 1 (m0 87) → m 87 = atN (up1 (m0 87) 4 0) k → eH 1 c0 c → eM m0 m → Ans (f8_check_b65 v c) (f9_check_b81 (m0 87 0) v m) := by
    intro c m v k h1 h2 h3 h4
    obtain ⟨q1, q2⟩ := HC_emptyW h1 g
    have e : (jup m 87 0 (m0 87 0)) 87 = up1 (m0 87) 4 0 := by
      rw [jup_rs, h2, show m0 87 0 = (up1 (m0 87) 4 0) 0 from (up1_ne _ _ (by omega)).symm]; exact atN_back q2 _
    unfold f8_check_b65 f9_check_b81 f3_empty
    rw [if_pos (show jO cPl 11 3 = true from (hs_wait jH1).1), ob]
    refine ⟨_, _, _, rfl, rfl, R_now r (by rw [e]; exact q1) (by rw [e]; exact q2) ?_ (eH_tr h3 (eH_up _ _ _ (by omega) (by omega))) (eM_tr h4 (eM_up _ _ _))⟩
    rw [e, nN_up _ _ (by omega)]; exact n9
  intro d
  induction d with
  | zero =>
    intro n k c m v h1 h2 h3 h4 hk hd
    obtain ⟨n, rfl⟩ : ∃ n', n = n' + 1 := ⟨n - 1, by omega⟩
    have e11 : c 11 1 = nI (nW (m0 87)) := (show c 11 1 = m0 87 4 from h1.2.2.2.2.2.2.2.1).trans w1
    unfold f8_check_b4 f9_check_b26
    rw [e11, if_pos (by rw [nI_leI (by omega) (by omega)]; omega), if_pos (by rw [nI_leI (by omega) (by omega)]; omega)]
    exact fin c m v _ h1 h2 h3 h4
  | succ d ih =>
    intro n k c m v h1 h2 h3 h4 hk hd
    obtain ⟨n, rfl⟩ : ∃ n', n = n' + 1 := ⟨n - 1, by omega⟩
    have e11 : c 11 1 = nI (nW (m0 87)) := (show c 11 1 = m0 87 4 from h1.2.2.2.2.2.2.2.1).trans w1
    obtain ⟨q1, q2⟩ := HC_emptyW h1 g
    have e0 : c 1 0 + nI k = nI (nN (m0 87) + k) := by rw [h1.1, (g_0 g).1, nI_add]
    obtain ⟨c1, a1, a2, a3⟩ := seenIn_eq jH1 h1 g (n := nN (m0 87) + k) (by omega)
    obtain ⟨m1, b1, b2, b3⟩ := seenAt q2 (n := nN (m0 87) + k) (by omega) h2
    have m10 : m1 87 0 + 1 = nI (nN (m0 87) + (k + 1)) := by rw [b2]; unfold atN; rw [up1_self, nI_1]; rfl
    have hm2 : (jup m1 87 0 (nI (nN (m0 87) + (k + 1)))) 87 = atN (up1 (m0 87) 4 0) (nN (m0 87) + (k + 1)) := by rw [jup_rs, b2, atN_atN]
    have ss : sSeen (up1 (m0 87) 4 0) (nN (m0 87) + k) = sSeen (m0 87) (nN (m0 87) + k) := sSeen_cong (up1_ne _ _ (by omega)) (fun j hj => up1_ne _ _ (by omega)) _
    rw [ss] at b1
    have mk : m 87 (86 + k) = c 12 k := by
      rw [h2, atN_ne _ _ (by omega), up1_ne _ _ (by omega)]; exact (h1.2.2.2.2.2.2.2.2.1 k (by omega)).symm
    have kk : ¬ nI (nW (m0 87)) ≤ nI k := by rw [nI_leI (by omega) (by omega)]; omega
    unfold f8_check_b4 f9_check_b26 f9_check_b64
    rw [e11, if_neg kk, if_neg kk]
    by_cases ev : v = 0
    · rw [if_pos ev, if_pos ev, get_in (show jRow 11 20 from hs_wait jH1) (by omega) e11 (by omega) w2, ob, e0, a1, ob, show (86 : Int32) = nI 86 from rfl, nI_add, if_pos (jin_nI (by omega) (by omega)), nI_clamp (by omega), mk, b1, ob]
      dsimp only
      rw [bitCount_eq, ob, bits_eq, ob, m10, nI_1]
      by_cases e : c 12 k = nI (pcI (sSeen (m0 87) (nN (m0 87) + k)))
      · rw [if_pos e, if_pos e, ev]
        exact ih n (k + 1) c1 _ 0 a2 hm2 (eH_tr h3 a3) (eM_tr (eM_tr h4 b3) (eM_up _ _ _)) (by omega) (by omega)
      · rw [if_neg e, if_neg e]
        exact ih n (k + 1) c1 _ _ a2 hm2 (eH_tr h3 a3) (eM_tr (eM_tr h4 b3) (eM_up _ _ _)) (by omega) (by omega)
    · rw [if_neg ev, if_neg ev]
      exact fin c m v _ h1 h2 h3 h4
theorem act_check {c m : JMu} (r : R c m) : Ans (f8_check c) (f9_check m) := by
  have g := r.2.1
  obtain ⟨w1, w2⟩ := g_w g
  have e : (jup m 87 4 0) 87 = atN (up1 (m 87) 4 0) (nN (m 87) + 0) := by
    rw [jup_rs]
    have := atN_now (HC_emptyW r.1 g).2
    rw [nN_up _ _ (by omega)] at this
    exact this.symm
  unfold f8_check f9_check
  rw [w1, jup_col (by omega)]
  exact check_loop r (nW (m 87)) jN 0 c _ 0 r.1 e (eH_rf _ _) (eM_up _ _ _) (by omega) (by unfold jN; omega)

/-! CLASS AND CHECK SAY THE SAME -/
def SH (c m : JMu) (s : Nat) : Prop := ∃ n w, n ≤ 40 ∧ m 99 s = nI n ∧ (w = 0 ∨ w = 8 ∨ w = 16 ∨ w = 32) ∧ m 98 s = nI w ∧ c (73 + 3 * s) 1 = nI w ∧ c (74 + 3 * s) 1 = nI n ∧ ∀ i, i < n → c (75 + 3 * s) i = m 100 (40 * s + i)
def RX (c m : JMu) : Prop :=
  c 0 8 = m 86 3 ∧ (c 0 8 ≠ 0 → HC c 21 (m 88) ∧ GA (m 88) ∧ nN (m 88) ≤ 9999) ∧ (∀ k, k < 6 → c 85 k = m 90 k) ∧ (c 33 0 = 0 ∧ c 37 0 = 1) ∧ (∀ s, s < 4 → SH c m s) ∧
  (∃ n, n ≤ 40 ∧ m 86 18 = nI n ∧ c 67 1 = nI n ∧ ∀ i, i < n → c 68 i = m 97 i)
def R (c m : JMu) : Prop := HC c 1 (m 87) ∧ GA (m 87) ∧ nN (m 87) ≤ 9999 ∧ (c 53 0 = 0 ∧ c 57 0 = 1) ∧ RX c m
def Ans (a b : Option (Int32 × JMu)) : Prop := ∃ v c' m', a = some (v, c') ∧ b = some (v, m') ∧ R c' m'
theorem HC_far {c c' : JMu} {h : Nat} {A : Nat → Int32} (hc : HC c h A) (g : GA A) (e : ∀ q, h ≤ q → q < h + 20 → c' q = c q) : HC c' h A := by
  obtain ⟨a1, a2, a3, a4, a5, a6, a7, a8, a9, a10, ⟨a11, a12⟩, a13, ⟨a14, a15⟩⟩ := hc
  have gn := (g_n g).2
  refine ⟨?_, ?_, ?_, ?_, ?_, ?_, ?_, ?_, ?_, ?_, ⟨?_, ?_⟩, ?_, ⟨?_, ?_⟩⟩
  any_goals (rw [e _ (by omega) (by omega)]; assumption)
  all_goals first
    | (intro i hi; rw [e _ (by omega) (by omega)]; first | exact a7 i hi | exact a9 i hi | exact a12 i hi | exact a15 i hi)
    | (intro t f ht hf; rw [e _ (by omega) (by omega)]; exact a5 t f ht hf)
theorem RX_fr {c c' m m' : JMu} (r : RX c m) (h0 : c' 0 8 = c 0 8) (hk : ∀ q, 21 ≤ q → q < 41 → c' q = c q) (hr : ∀ q, q = 67 ∨ q = 68 ∨ 72 ≤ q → c' q = c q)
    (m3 : m' 86 3 = m 86 3) (m18 : m' 86 18 = m 86 18) (mr : ∀ q, q = 88 ∨ q = 90 ∨ q = 97 ∨ q = 98 ∨ q = 99 ∨ q = 100 → m' q = m q) : RX c' m' := by
  obtain ⟨r1, r2, r3, r4, r5, ⟨n, n1, n2, n3, n4⟩⟩ := r
  refine ⟨by rw [h0, m3]; exact r1, ?_, ?_, ?_, ?_, ⟨n, n1, by rw [m18]; exact n2, by rw [hr _ (by omega)]; exact n3, by rw [hr _ (by omega), mr _ (by omega)]; exact n4⟩⟩
  · intro h
    rw [h0] at h
    obtain ⟨a, b, d⟩ := r2 h
    rw [mr 88 (by omega)]
    exact ⟨HC_far a b (fun q h1 h2 => hk q h1 (by omega)), b, d⟩
  · rw [hr _ (by omega), mr _ (by omega)]; exact r3
  · rw [hk _ (by omega) (by omega), hk _ (by omega) (by omega)]; exact r4
  · intro s hs
    unfold SH
    rw [mr 99 (by omega), mr 98 (by omega), mr 100 (by omega), hr _ (by omega), hr _ (by omega), hr _ (by omega)]
    exact r5 s hs
theorem R_now {c c' m m' : JMu} (r : R c m) (hc : HC c' 1 (m' 87)) (g : GA (m' 87)) (n : nN (m' 87) ≤ 9999) (e : eH 1 c c') (em : eM m m') : R c' m' := by
  obtain ⟨r1, r2, r3, r4, r5⟩ := r
  refine ⟨hc, g, n, ?_, RX_fr r5 ?_ ?_ ?_ ?_ ?_ ?_⟩
  · rw [e _ (by omega), e _ (by omega)]; exact r4
  · rw [e _ (by omega)]
  · intro q h1 h2; exact e q (by omega)
  · intro q h; exact e q (by omega)
  · rw [em _ (by omega) (by omega) (by omega)]
  · rw [em _ (by omega) (by omega) (by omega)]
  · intro q h; exact em q (by omega) (by omega) (by omega)
/-- only looked -/
theorem R_look {c c' m m' : JMu} (r : R c m) (hc : HC c' 1 (m 87)) (e : eH 1 c c') (h87 : m' 87 = m 87) (em : eM m m') : R c' m' :=
  R_now r (by rw [h87]; exact hc) (by rw [h87]; exact r.2.1) (by rw [h87]; exact r.2.2.1) e em
theorem R_err {c m : JMu} (r : R c m) (k : Nat) (hk : k < 6) : R (cErr c k) (mErr m k) := by
  obtain ⟨r1, r2, r3, r4, r5, r6, r7, r8, r9, ⟨n, n1, n2, n3, n4⟩⟩ := r
  have e : ∀ q, q ≠ 85 → cErr c k q = c q := fun q h => jup_row h
  have em : ∀ q, q ≠ 90 → mErr m k q = m q := fun q h => jup_row h
  unfold R RX
  rw [em 87 (by omega), em 88 (by omega), em 86 (by omega), em 97 (by omega), e 53 (by omega), e 57 (by omega), e 0 (by omega), e 33 (by omega), e 37 (by omega), e 67 (by omega), e 68 (by omega)]
  refine ⟨HC_far r1 r2 (fun q _ _ => e q (by omega)), r2, r3, r4, r5, ?_, ?_, r8, ?_, ⟨n, n1, n2, n3, n4⟩⟩
  · intro h
    obtain ⟨a, b, d⟩ := r6 h
    exact ⟨HC_far a b (fun q _ _ => e q (by omega)), b, d⟩
  · intro j hj
    unfold cErr mErr
    rw [jup_at, jup_at, r7 k hk, r7 j hj]
  · intro s hs
    unfold SH
    rw [em 99 (by omega), em 98 (by omega), em 100 (by omega), e _ (by omega), e _ (by omega), e _ (by omega)]
    exact r9 s hs
theorem ans_err1 {c m : JMu} (r : R c m) : Ans (Option.bind (f8_fail (-1000000001) c) fun x => some (x.1, x.2)) (Option.bind (f9_finding (-1000000001) m) fun x => some (x.1, x.2)) := by
  rw [fail1, find1]; exact ⟨_, _, _, rfl, rfl, R_err r 1 (by omega)⟩
theorem ans_err2 {c m : JMu} (r : R c m) : Ans (Option.bind (f8_fail (-1000000002) c) fun x => some (x.1, x.2)) (Option.bind (f9_finding (-1000000002) m) fun x => some (x.1, x.2)) := by
  rw [fail2, find2]; exact ⟨_, _, _, rfl, rfl, R_err r 2 (by omega)⟩
theorem ans_err3 {c m : JMu} (r : R c m) : Ans (Option.bind (f8_fail (-1000000003) c) fun x => some (x.1, x.2)) (Option.bind (f9_finding (-1000000003) m) fun x => some (x.1, x.2)) := by
  rw [fail3, find3]; exact ⟨_, _, _, rfl, rfl, R_err r 3 (by omega)⟩
theorem ans_err4 {c m : JMu} (r : R c m) : Ans (Option.bind (f8_fail (-1000000004) c) fun x => some (x.1, x.2)) (Option.bind (f9_finding (-1000000004) m) fun x => some (x.1, x.2)) := by
  rw [fail4, find4]; exact ⟨_, _, _, rfl, rfl, R_err r 4 (by omega)⟩
theorem ans_err5 {c m : JMu} (r : R c m) : Ans (Option.bind (f8_fail (-1000000005) c) fun x => some (x.1, x.2)) (Option.bind (f9_finding (-1000000005) m) fun x => some (x.1, x.2)) := by
  rw [fail5, find5]; exact ⟨_, _, _, rfl, rfl, R_err r 5 (by omega)⟩
theorem i10 : ¬ (1 : Int32) = 0 := by decide
theorem jH1 : jH 1 := Or.inl rfl
theorem jH21 : jH 21 := Or.inr (Or.inl rfl)
theorem jH41 : jH 41 := Or.inr (Or.inr rfl)
/-- a tenant's number: both find one, or neither does -/
theorem ten_two {c m : JMu} (r : R c m) (x : Int32) : (f0_find 1 x c = some none ∧ f9_isTenant x m = some 0) ∨ (∃ t, t < nT (m 87) ∧ x = nI t ∧ f0_find 1 x c = some (some (1 + 2 + t)) ∧ f9_isTenant x m = some 1) := by
  have g := r.2.1
  obtain ⟨g1, g2⟩ := g_n g
  have hn : c 1 3 = nI (nT (m 87)) := r.1.2.2.2.1.trans g1
  rcases t_two g x with ⟨h1, h2⟩ | ⟨t, ht, rfl, h2⟩
  · exact Or.inl ⟨find_out jH1 hn g2 h2, by rw [isTenant_eq, if_pos h1]⟩
  · exact Or.inr ⟨t, ht, rfl, find_in jH1 hn g2 ht, by rw [isTenant_eq, if_neg h2]⟩
theorem tn1 {t : Nat} (ht : t < 6) : jO cPl (1 + 2 + t) 6 = true := tn_obj jH1 ht
theorem act_lit {c m : JMu} (r : R c m) (x : Int32) : Ans (f8_lit x c) (f9_lit x m) := by
  unfold f8_lit f9_lit
  rw [outside_eq, within_eq, ob, ob]
  rcases rng x 0 15 (by omega) (by omega) with h | ⟨h, k, -, h2, rfl⟩
  · have h : x < 0 ∨ 15 < x := h
    rw [if_pos h, if_pos h, if_neg i10, if_pos rfl]; exact ans_err1 r
  · have h : ¬ (nI k < 0 ∨ 15 < nI k) := h
    rw [if_neg h, if_neg h, if_pos rfl, if_neg i10, (lit_c k (by omega)).1, (lit_c k (by omega)).2.1]
    exact ⟨_, _, _, rfl, rfl, r⟩
theorem act_weather {c m : JMu} (r : R c m) (x : Int32) : Ans (f8_weather x c) (f9_weather x m) := by
  unfold f8_weather f9_weather
  rw [outside_eq, within_eq, ob, ob]
  rcases rng x 0 9 (by omega) (by omega) with h | ⟨h, k, -, h2, rfl⟩
  · have h : x < 0 ∨ 9 < x := h
    rw [if_pos h, if_pos h, if_neg i10, if_pos rfl]; exact ans_err1 r
  · have h : ¬ (nI k < 0 ∨ 9 < nI k) := h
    rw [if_neg h, if_neg h, if_pos rfl, if_neg i10]
    refine ⟨m 87 2, jup c 1 1 (nI k), jup m 87 2 (nI k), by rw [r.1.2.1], rfl, ?_⟩
    have hc := HC_hd r.1 r.2.1 (k := 1) (a := 2) (nI k) (Or.inr (Or.inl ⟨rfl, rfl⟩))
    have hg := GA_hd r.2.1 (a := 2) (v := nI k) (Or.inr (Or.inl ⟨rfl, k, h2, rfl⟩))
    refine R_now r (by rw [jup_rs]; exact hc) (by rw [jup_rs]; exact hg) ?_ (eH_up _ _ _ (by omega) (by omega)) (eM_up _ _ _)
    rw [jup_rs, nN_up _ _ (by omega)]; exact r.2.2.1
theorem act_seed {c m : JMu} (r : R c m) (x : Int32) : Ans (f8_seed x c) (f9_seed x m) := by
  unfold f8_seed f9_seed
  refine ⟨m 87 5, jup c 1 2 x, jup m 87 5 x, by rw [r.1.2.2.1], rfl, ?_⟩
  have hc := HC_hd r.1 r.2.1 (k := 2) (a := 5) x (Or.inr (Or.inr ⟨rfl, rfl⟩))
  have hg := GA_hd r.2.1 (a := 5) (v := x) (Or.inr (Or.inr rfl))
  refine R_now r (by rw [jup_rs]; exact hc) (by rw [jup_rs]; exact hg) ?_ (eH_up _ _ _ (by omega) (by omega)) (eM_up _ _ _)
  rw [jup_rs, nN_up _ _ (by omega)]; exact r.2.2.1
theorem act_trace {c m : JMu} (r : R c m) (x : Int32) : Ans (f8_trace x c) (f9_trace x m) := by
  obtain ⟨n, n1, n2, n3, n4⟩ := r.2.2.2.2.2.2.2.2.2
  obtain ⟨a1, a2, a3, a4⟩ := rs_67
  unfold f8_trace f9_trace f3_has
  rw [within_eq, ob, if_pos a1, n3, n2]
  rcases pk_ix x (n := n) (by omega) with h | h | ⟨t, h, rfl⟩
  · rw [if_pos h, if_pos (Or.inl h), ob, if_pos rfl, if_pos rfl]; exact ans_err2 r
  · have h2 : nI n - 1 < x := by
      have z1 : (1 : Int32).toInt = 1 := rfl
      have := nI_toInt (n := n) (by omega)
      rw [fa_le] at h
      rw [fa_lt, fb_subI (by omega) (by omega)]; omega
    by_cases h0 : x < 0
    · rw [if_pos h0, if_pos (Or.inl h0), ob, if_pos rfl, if_pos rfl]; exact ans_err2 r
    · rw [if_neg h0, if_pos h, if_pos (Or.inr h2), ob, if_pos rfl, if_pos rfl]; exact ans_err2 r
  · have h2 : ¬ (nI t < 0 ∨ nI n - 1 < nI t) := by
      rintro (q | q)
      · exact nI_pos (by omega) q
      · obtain ⟨n, rfl⟩ : ∃ n', n = n' + 1 := ⟨n - 1, by omega⟩
        rw [nI_pred, ltI (by omega) (by omega)] at q; omega
    rw [if_neg (nI_pos (by omega)), if_neg (by rw [nI_leI (by omega) (by omega)]; omega), a2, if_pos a3, a4,
      if_neg (by show ¬ nI 40 ≤ nI t; rw [nI_leI (by omega) (by omega)]; omega), ob, if_neg i10, if_neg h2, if_neg i10, get_in rs_67 (by omega) n3 h n1, ob,
      if_pos (jin_nI (by omega) (by omega)), nI_clamp (by omega), n4 t h]
    exact ⟨_, _, _, rfl, rfl, r⟩
theorem act_told {c m : JMu} (r : R c m) (x : Int32) : Ans (f8_told x c) (f9_told x m) := by
  unfold f8_told f9_told
  rw [show ((6 : Int32) - 1) = 5 by decide, outside_eq, within_eq, ob, ob]
  rcases rng x 1 5 (by omega) (by omega) with h | ⟨h, k, h1, h2, rfl⟩
  · have h : x < 1 ∨ 5 < x := h
    rw [if_pos h, if_pos h, if_neg i10, if_pos rfl]; exact ans_err1 r
  · have h : ¬ (nI k < 1 ∨ 5 < nI k) := h
    rw [if_neg h, if_neg h, if_pos rfl, if_neg i10, if_pos (jin_nI (by omega) (by omega)), if_pos (jin_nI (by omega) (by omega)), nI_clamp (by omega), r.2.2.2.2.2.2.1 k (by omega)]
    exact ⟨_, _, _, rfl, rfl, r⟩
theorem act_as {c m : JMu} (r : R c m) (x o : Int32) : Ans (f8_as x o c) (f9_as x o m) := by
  have g2 := (g_n r.2.1).2
  unfold f8_as f9_as f8_as_b27 f9_as_b18
  rcases ten_two r x with ⟨h1, h2⟩ | ⟨t, ht, rfl, h1, h2⟩
  · rw [h1, h2, ob, ob, if_pos rfl]; exact ans_err1 r
  · obtain ⟨k1, k2⟩ := kd_eq r.2.1 ht
    rw [h1, h2, ob, ob, if_neg i10, show ((7 : Int32) - 1) = 6 by decide, within_eq, ob]
    dsimp only
    rw [outside_eq, ob]
    rcases rng o 0 6 (by omega) (by omega) with h | ⟨h, q, h3, h4, rfl⟩
    · have h : o < 0 ∨ 6 < o := h
      rw [if_pos h, if_pos h, if_neg i10, if_pos rfl]; exact ans_err1 r
    · have h : ¬ (nI q < 0 ∨ 6 < nI q) := h
      rw [if_neg h, if_neg h, if_pos rfl, if_neg i10, if_pos (tn1 (by omega)), r.1.2.2.2.2.1 t 0 ht (by omega), r.1.2.2.2.2.1 t 1 ht (by omega), show m 87 (6 + 5 * t + 0) = nI (kd (m 87) t) from k1, (und_c _ (by omega) q (by omega)).1, ob, isOf_eq (by omega) k1 k2 (by omega), ob]
      cases undB (kd (m 87) t) q
      · exact ans_err5 r
      · rw [ten1 m (by omega)]
        exact ⟨_, _, _, rfl, rfl, r⟩
theorem act_become {c m : JMu} (r : R c m) (x km : Int32) : Ans (f8_become x km c) (f9_become x km m) := by
  have g2 := (g_n r.2.1).2
  unfold f8_become f9_become f8_become_b20 f9_become_b15
  rcases ten_two r x with ⟨h1, h2⟩ | ⟨t, ht, rfl, h1, h2⟩
  · rw [h1, h2, ob, ob, if_pos rfl]; exact ans_err1 r
  · rw [h1, h2, ob, ob, if_neg i10, isKindM_eq, ob]
    dsimp only
    rw [isNoKind_eq, ob]
    rcases rng km 0 69 (by omega) (by omega) with h | ⟨h, q, h3, h4, rfl⟩
    · have h : km < 0 ∨ 69 < km := h
      rw [if_pos h, if_pos h, if_neg i10, if_pos rfl]; exact ans_err1 r
    · have h : ¬ (nI q < 0 ∨ 69 < nI q) := h
      have at1 : f9_at (nI t) 1 = some (nI (6 + 5 * t + 1)) := at_eq t 1
      have at0 : f9_at (nI t) 0 = some (nI (6 + 5 * t + 0)) := at_eq t 0
      rw [if_neg h, if_neg h, if_pos rfl, if_neg i10, if_pos (tn1 (by omega)), r.1.2.2.2.2.1 t 0 ht (by omega), at1, ob, if_pos (jin_nI (by omega) (by omega)), at0, ob, nI_clamp (by omega)]
      unfold f9_turn
      rw [if_pos (jin_nI (by omega) (by omega)), if_pos (jin_nI (by omega) (by omega)), ob, nI_clamp (by omega), jup_col (by omega)]
      rw [show nI q / (10 : Int32) = nI (q / 10) from pk_div (by omega) (d := 10) (by omega) (by omega), show jrem (nI q) (10 : Int32) = nI (q % 10) from rem_nI (by omega) (d := 10) (by omega) (by omega)]
      refine ⟨m 87 (6 + 5 * t + 0), jup (jup c (1 + 2 + t) 0 (nI (q / 10))) (1 + 2 + t) 1 (nI (q % 10)), jup (jup m 87 (6 + 5 * t + 1) (nI (q % 10))) 87 (6 + 5 * t + 0) (nI (q / 10)), rfl, rfl, ?_⟩
      have gA := GA_ten (f := 0) (v := nI (q / 10)) r.2.1 ht (Or.inl ⟨rfl, q / 10, by omega, rfl⟩)
      have gB := GA_ten (f := 1) (v := nI (q % 10)) gA (t := t) (by rw [nT_up _ _ (by omega)]; exact ht) (Or.inr (Or.inl ⟨rfl, q % 10, by omega, rfl⟩))
      have hA := HC_ten (f := 0) r.1 r.2.1 ht (by omega) (nI (q / 10))
      have hB := HC_ten (f := 1) hA gA (t := t) (by rw [nT_up _ _ (by omega)]; exact ht) (by omega) (nI (q % 10))
      have sw : (jup (jup m 87 (6 + 5 * t + 1) (nI (q % 10))) 87 (6 + 5 * t + 0) (nI (q / 10))) 87 = up1 (up1 (m 87) (6 + 5 * t + 0) (nI (q / 10))) (6 + 5 * t + 1) (nI (q % 10)) := by
        rw [jup_rs, jup_rs]
        funext j
        unfold up1
        by_cases e1 : j = 6 + 5 * t + 0
        · rw [if_pos e1, if_neg (by omega), if_pos e1]
        · rw [if_neg e1, if_neg e1]
      refine R_now r (by rw [sw]; exact hB) (by rw [sw]; exact gB) ?_ (eH_tr (eH_up _ _ _ (by omega) (by omega)) (eH_up _ _ _ (by omega) (by omega))) (eM_tr (eM_up _ _ _) (eM_up _ _ _))
      rw [sw, nN_up _ _ (by omega), nN_up _ _ (by omega)]; exact r.2.2.1
theorem turn_eq (m : JMu) {k : Nat} (hk : k < 210) (v : Int32) : f9_turn (nI k) v m = some (m 87 k, jup m 87 k v) := by
  unfold f9_turn
  rw [if_pos (jin_nI hk (by omega)), if_pos (jin_nI hk (by omega)), nI_clamp (by omega)]
theorem R_ten {c m : JMu} (r : R c m) {t f : Nat} (ht : t < nT (m 87)) {v : Int32} (hf : (f = 0 ∧ ∃ k, k ≤ 6 ∧ v = nI k) ∨ (f = 1 ∧ ∃ q, q ≤ 9 ∧ v = nI q) ∨ (f = 2 ∧ ∃ x, x < 2 ^ 24 ∧ v = nI x) ∨ (f = 3 ∧ -9999 ≤ v.toInt ∧ v.toInt ≤ 9999) ∨ (f = 4 ∧ (v = 0 ∨ v = 1))) :
    R (jup c (1 + 2 + t) f v) (jup m 87 (6 + 5 * t + f) v) := by
  have g2 := (g_n r.2.1).2
  refine R_now r (by rw [jup_rs]; exact HC_ten r.1 r.2.1 ht (by omega) v) (by rw [jup_rs]; exact GA_ten r.2.1 ht hf) ?_ (eH_up _ _ _ (by omega) (by omega)) (eM_up _ _ _)
  rw [jup_rs, nN_up _ _ (by omega)]; exact r.2.2.1
theorem act_lease {c m : JMu} (r : R c m) (x s : Int32) : Ans (f8_lease x s c) (f9_lease x s m) := by
  have g2 := (g_n r.2.1).2
  unfold f8_lease f9_lease f8_lease_b20 f9_lease_b15
  rcases ten_two r x with ⟨h1, h2⟩ | ⟨t, ht, rfl, h1, h2⟩
  · rw [h1, h2, ob, ob, if_pos rfl]; exact ans_err1 r
  · rw [h1, h2, ob, ob, if_neg i10, isSet_eq, ob]
    dsimp only
    rw [isNoSet_eq, ob]
    rcases rng s 0 16777215 (by omega) (by omega) with h | ⟨h, q, h3, h4, rfl⟩
    · have h : s < 0 ∨ 16777215 < s := h
      rw [if_pos h, if_pos h, if_neg i10, if_pos rfl]; exact ans_err1 r
    · have h : ¬ (nI q < 0 ∨ 16777215 < nI q) := h
      rw [if_neg h, if_neg h, if_pos rfl, if_neg i10, if_pos (tn1 (by omega)), r.1.2.2.2.2.1 t 4 ht (by omega), r.1.2.2.2.2.1 t 2 ht (by omega), isOut_eq r.2.1 ht, ob]
      by_cases e : m 87 (6 + 5 * t + 4) = 0
      · rw [if_pos e, if_pos e, at2, ob, turn_eq m (by omega), ob]
        exact ⟨_, _, _, rfl, rfl, R_ten r ht (Or.inr (Or.inr (Or.inl ⟨rfl, q, by omega, rfl⟩)))⟩
      · rw [if_neg e, if_neg e]; exact ans_err3 r
theorem act_purse {c m : JMu} (r : R c m) (x s : Int32) : Ans (f8_purse x s c) (f9_purse x s m) := by
  have g2 := (g_n r.2.1).2
  unfold f8_purse f9_purse f8_purse_b26 f9_purse_b21
  rcases ten_two r x with ⟨h1, h2⟩ | ⟨t, ht, rfl, h1, h2⟩
  · rw [h1, h2, ob, ob, if_pos rfl]; exact ans_err1 r
  · rw [h1, h2, ob, ob, if_neg i10, within_eq, ob]
    dsimp only
    rw [outside_eq, ob]
    by_cases h : s < -9999 ∨ 9999 < s
    · rw [if_pos h, if_pos h, if_neg i10, if_pos rfl]; exact ans_err1 r
    · rw [if_neg h, if_neg h, if_pos rfl, if_neg i10, if_pos (tn1 (by omega)), r.1.2.2.2.2.1 t 3 ht (by omega), at3, ob, turn_eq m (by omega), ob]
      refine ⟨_, _, _, rfl, rfl, R_ten r ht (Or.inr (Or.inr (Or.inr (Or.inl ⟨rfl, ?_⟩))))⟩
      rw [not_or, fa_lt, fa_lt, show (-9999 : Int32).toInt = -9999 from rfl, show (9999 : Int32).toInt = 9999 from rfl] at h
      omega
-- the evicted
def outP (A : Nat → Int32) (t : Nat) : Bool := !decide (A (6 + 5 * t + 4) = 0)
def sOut (A : Nat → Int32) : Int32 := nI (fb_ct (outP A) (nT A))
theorem outC_loop {c : JMu} {h : Nat} {A : Nat → Int32} (hh : jH h) (hc : HC c h A) (g : GA A) : ∀ d n k, k + d = nT A → d < n → f0_howManyEvicted_b4 h n (nI (fb_ct (outP A) k)) (nI k) c = some (sOut A) := by
  obtain ⟨g1, g2⟩ := g_n g
  have hn : c h 3 = nI (nT A) := hc.2.2.2.1.trans g1
  intro d
  induction d with
  | zero =>
    intro n k hk hd
    obtain ⟨n, rfl⟩ : ∃ n', n = n' + 1 := ⟨n - 1, by omega⟩
    unfold f0_howManyEvicted_b4 sOut
    rw [hn, if_pos (by rw [nI_leI (by omega) (by omega)]; omega), show k = nT A by omega]
  | succ d ih =>
    intro n k hk hd
    obtain ⟨n, rfl⟩ : ∃ n', n = n' + 1 := ⟨n - 1, by omega⟩
    have i1 := ih n (k + 1) (by omega) (by omega)
    rw [fb_ct_succ] at i1
    unfold f0_howManyEvicted_b4
    rw [hn, if_neg (by rw [nI_leI (by omega) (by omega)]; omega), find_in hh hn g2 (t := k) (by omega), ob]
    dsimp only
    rw [if_pos (tn_obj hh (by omega)), hc.2.2.2.2.1 k 4 (by omega) (by omega), nI_1]
    by_cases e : A (6 + 5 * k + 4) = 0
    · rw [if_pos e]
      rw [show outP A k = false by unfold outP; simp [e]] at i1
      exact i1
    · rw [if_neg e, nI_1]
      rw [show outP A k = true by unfold outP; simp [e]] at i1
      exact i1
theorem outC_eq {c : JMu} {h : Nat} {A : Nat → Int32} (hh : jH h) (hc : HC c h A) (g : GA A) : f0_howManyEvicted h c = some (sOut A) := by
  unfold f0_howManyEvicted
  rw [if_pos (hs_obj hh)]
  exact outC_loop hh hc g (nT A) jN 0 (by omega) (by have := (g_n g).2; unfold jN; omega)
theorem outM_loop {m : JMu} (g : GA (m 87)) : ∀ d n k, k + d = nT (m 87) → d < n → f9_manyOut_b4 n (nI (fb_ct (outP (m 87)) k)) (nI k) m = some (sOut (m 87)) := by
  obtain ⟨g1, g2⟩ := g_n g
  intro d
  induction d with
  | zero =>
    intro n k hk hd
    obtain ⟨n, rfl⟩ : ∃ n', n = n' + 1 := ⟨n - 1, by omega⟩
    unfold f9_manyOut_b4 sOut
    rw [g1, if_pos (by rw [nI_leI (by omega) (by omega)]; omega), show k = nT (m 87) by omega]
  | succ d ih =>
    intro n k hk hd
    obtain ⟨n, rfl⟩ : ∃ n', n = n' + 1 := ⟨n - 1, by omega⟩
    have i1 := ih n (k + 1) (by omega) (by omega)
    rw [fb_ct_succ] at i1
    unfold f9_manyOut_b4
    rw [if_neg (by rw [g1, nI_leI (by omega) (by omega)]; omega), ten4 m (by omega), ob, nI_1]
    rcases g_e g (t := k) (by omega) with e | e
    · rw [e, add0]
      rw [show outP (m 87) k = false by unfold outP; simp [e]] at i1
      exact i1
    · rw [e, nI_1]
      rw [show outP (m 87) k = true by unfold outP; rw [e]; rfl] at i1
      exact i1
theorem outM_eq {m : JMu} (g : GA (m 87)) : f9_manyOut m = some (sOut (m 87)) := by
  unfold f9_manyOut
  exact outM_loop g (nT (m 87)) jN 0 (by omega) (by have := (g_n g).2; unfold jN; omega)
theorem act_pardon {c m : JMu} (r : R c m) (x : Int32) : Ans (f8_pardon x c) (f9_pardon x m) := by
  have g2 := (g_n r.2.1).2
  unfold f8_pardon f9_pardon
  rcases ten_two r x with ⟨h1, h2⟩ | ⟨t, ht, rfl, h1, h2⟩
  · rw [h1, h2, ob, ob, if_pos rfl]; exact ans_err1 r
  · rw [h1, h2, ob, ob, if_neg i10, isOut_eq r.2.1 ht, ob]
    dsimp only
    rw [if_pos (tn1 (by omega)), r.1.2.2.2.2.1 t 4 ht (by omega)]
    by_cases e : m 87 (6 + 5 * t + 4) = 0
    · rw [if_pos e, if_pos e]; exact ans_err3 r
    · have r2 := R_ten (f := 4) (v := 0) r ht (Or.inr (Or.inr (Or.inr (Or.inr ⟨rfl, Or.inl rfl⟩))))
      have r3 := R_ten (f := 3) (v := 0) r2 (t := t) (by rw [jup_rs, nT_up _ _ (by omega)]; exact ht) (Or.inr (Or.inr (Or.inr (Or.inl ⟨rfl, by decide, by decide⟩))))
      rw [if_neg e, if_neg e, at4, ob, if_pos (jin_nI (by omega) (by omega)), at3, ob, if_pos (jin_nI (by omega) (by omega)), nI_clamp (by omega), nI_clamp (by omega), outC_eq jH1 r3.1 r3.2.1, outM_eq r3.2.1]
      exact ⟨_, _, _, rfl, rfl, r3⟩
theorem act_law {c m : JMu} (r : R c m) (u x y z : Int32) : Ans (f8_law u x y z c) (f9_law u x y z m) := by
  unfold f8_law f9_law f0_lawOf
  rw [isNoUse_eq, within_eq, ob, ob, if_pos (hs_obj jH1), (hs_rf jH1).2.2.2.1, (hs_rf jH1).2.2.2.2]
  rcases rng u 0 1 (by omega) (by omega) with h | ⟨h, q, h3, h4, rfl⟩
  · have h : u < 0 ∨ 1 < u := h
    rw [if_pos h, if_pos h, if_neg i10, if_pos rfl]; exact ans_err1 r
  · have h : ¬ (nI q < 0 ∨ 1 < nI q) := h
    rw [if_neg h, if_neg h, if_pos rfl, if_neg i10]
    have : q = 0 ∨ q = 1 := by omega
    rcases this with rfl | rfl
    · obtain ⟨c', a1, a2, a3⟩ := rule0 jH1 r.1 r.2.1 x y z
      obtain ⟨m', b1, b2, b3⟩ := given0 r.2.1 x y z
      rw [if_pos (by decide), ob, if_pos (hs_law0 jH1).1, a1, show f9_given (nI 0) x y z m = _ from b1]
      exact ⟨_, _, _, rfl, rfl, R_look r a2 a3 b2 b3⟩
    · obtain ⟨c', a1, a2, a3⟩ := rule1 jH1 r.1 r.2.1 x y z
      obtain ⟨m', b1, b2, b3⟩ := given1 r.2.1 x y z
      rw [if_neg (by decide), ob, if_pos (hs_law1 jH1).1, a1, show f9_given (nI 1) x y z m = _ from b1]
      exact ⟨_, _, _, rfl, rfl, R_look r a2 a3 b2 b3⟩
theorem act_nights {c m : JMu} (r : R c m) (x : Int32) : Ans (f8_nights x c) (f9_nights x m) := by
  unfold f8_nights f9_nights
  rw [outside_eq, within_eq, ob, ob, r.1.1, (g_0 r.2.1).1]
  rcases rng x 1 100 (by omega) (by omega) with h | ⟨h, q, h3, h4, rfl⟩
  · have h : x < 1 ∨ 100 < x := h
    rw [if_pos h, if_pos h, if_neg i10, if_pos rfl]; exact ans_err1 r
  · have h : ¬ (nI q < 1 ∨ 100 < nI q) := h
    have n9 := r.2.2.1
    rw [if_neg h, if_neg h, if_pos rfl, if_neg i10, nI_add]
    by_cases e : nI (nN (m 87) + q) ≤ 9999
    · have e' : nN (m 87) + q ≤ 9999 := by
        have : nI (nN (m 87) + q) ≤ nI 9999 := e
        rw [nI_leI (by omega) (by omega)] at this; exact this
      obtain ⟨c', a1, a2, a3⟩ := passC_eq jH1 r.1 r.2.1 (N := q) (by omega) (by omega)
      obtain ⟨m', b1, b2, b3⟩ := passM_eq r.2.1 (N := q) (by omega) (by omega)
      obtain ⟨p1, p2, p3⟩ := GA_sPass r.2.1 q (by omega)
      have p1' : GA (m' 87) := by rw [b2]; exact p1
      rw [if_pos e, if_pos e, a1, b1, ob, ob, outC_eq jH1 a2 p1, outM_eq p1', ob, ob]
      refine ⟨_, _, _, rfl, by rw [b2], R_now r (by rw [b2]; exact a2) p1' (by rw [b2, p3]; exact e') a3 b3⟩
    · rw [if_neg e, if_neg e]; exact ans_err3 r

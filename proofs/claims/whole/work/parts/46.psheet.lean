/-! SHEETS -/
theorem sheet_two (c : JMu) (x : Int32) : (f8_findSheet x c = some none ∧ f9_isSheet x = some 0) ∨ (∃ s, s < 4 ∧ x = nI s ∧ f8_findSheet x c = some (some (73 + 3 * s)) ∧ f9_isSheet x = some 1) := by
  rw [isSheet_eq]
  unfold f8_findSheet
  rcases rng x 0 3 (by omega) (by omega) with h | ⟨h, s, h3, h4, rfl⟩
  · have h : x < 0 ∨ 3 < x := h
    refine Or.inl ⟨?_, by rw [if_pos h]⟩
    by_cases e : x < 0
    · rw [if_pos e]
    · have : ¬ x < 4 := by
        rcases h with h | h
        · exact absurd h e
        · rw [fa_lt] at h ⊢
          have z3 : (3 : Int32).toInt = 3 := rfl
          have z4 : (4 : Int32).toInt = 4 := rfl
          omega
      rw [if_neg e, if_neg this]
  · have h : ¬ (nI s < 0 ∨ 3 < nI s) := h
    refine Or.inr ⟨s, by omega, rfl, ?_, by rw [if_neg h]⟩
    rw [if_neg (nI_pos (by omega)), if_pos (by show _ < nI 4; rw [ltI (by omega) (by omega)]; omega), if_pos (jin_nI (by omega) (by omega)), nI_clamp (by omega), (sh_s s (by omega)).1]
theorem R_sh {c c' m m' : JMu} (r : R c m) (e : ∀ q, ¬ (73 ≤ q ∧ q ≤ 84) → c' q = c q) (em : ∀ q, q ≠ 98 → q ≠ 99 → q ≠ 100 → q ≠ 101 → m' q = m q) (sh : ∀ s, s < 4 → SH c' m' s) : R c' m' := by
  obtain ⟨r1, r2, r3, r4, r5, r6, r7, r8, r9, ⟨n, n1, n2, n3, n4⟩⟩ := r
  unfold R RX
  rw [em 87 (by omega) (by omega) (by omega) (by omega), em 88 (by omega) (by omega) (by omega) (by omega), em 86 (by omega) (by omega) (by omega) (by omega), em 97 (by omega) (by omega) (by omega) (by omega), em 90 (by omega) (by omega) (by omega) (by omega),
    e 53 (by omega), e 57 (by omega), e 0 (by omega), e 33 (by omega), e 37 (by omega), e 67 (by omega), e 68 (by omega), e 85 (by omega)]
  refine ⟨HC_far r1 r2 (fun q _ _ => e q (by omega)), r2, r3, r4, r5, ?_, r7, r8, sh, ⟨n, n1, n2, n3, n4⟩⟩
  intro h
  obtain ⟨a, b, d⟩ := r6 h
  exact ⟨HC_far a b (fun q _ _ => e q (by omega)), b, d⟩
theorem w0 {w : Nat} (h : w = 0 ∨ w = 8 ∨ w = 16 ∨ w = 32) : (nI w = 0 ↔ w = 0) ∧ (nI w ≤ 0 ↔ w = 0) := by
  rcases h with rfl | rfl | rfl | rfl <;> decide
-- was
theorem good1 (v : Int32) (h : ¬ (v < 0 ∨ 1 < v)) : v = 0 ∨ v = 1 := by
  rcases rng v 0 1 (by omega) (by omega) with q | ⟨-, k, -, k1, rfl⟩
  · exact absurd q h
  · have : k = 0 ∨ k = 1 := by omega
    rcases this with rfl | rfl
    · exact Or.inl rfl
    · exact Or.inr rfl
theorem was_ph0 {m : JMu} {s N : Nat} (hs : s < 4) (h99 : m 99 s = nI N) (hN : N ≤ 40) : ∀ d n k, k + d = N → d < n → f9_was_b31 n (nI s) 0 (nI k) m = Option.bind (f9_finding (-1000000002) m) fun r36 => some (r36.1, r36.2) := by
  intro d
  induction d with
  | zero =>
    intro n k hk hd
    obtain ⟨n, rfl⟩ : ∃ n', n = n' + 1 := ⟨n - 1, by omega⟩
    unfold f9_was_b31
    rw [if_pos (jin_nI (by omega) (by omega)), nI_clamp (by omega), h99, if_pos (by rw [nI_leI (by omega) (by omega)]; omega), if_pos rfl]
  | succ d ih =>
    intro n k hk hd
    obtain ⟨n, rfl⟩ : ∃ n', n = n' + 1 := ⟨n - 1, by omega⟩
    unfold f9_was_b31 f9_was_b68 f9_was_b69
    rw [if_pos (jin_nI (by omega) (by omega)), nI_clamp (by omega), h99, if_neg (by rw [nI_leI (by omega) (by omega)]; omega), if_pos rfl, nI_1]
    exact ih n (k + 1) (by omega) (by omega)
theorem ix40 {s k : Nat} : (40 : Int32) * nI s + nI k = nI (40 * s + k) := by rw [show (40 : Int32) = nI 40 from rfl, pk_mul, nI_add]
theorem was_ph1 {m : JMu} {s N : Nat} (hs : s < 4) (h99 : m 99 s = nI N) (hN : N ≤ 40) : ∀ d n k, k + d = N → d < n →
    ((∀ i, k ≤ i → i < N → ¬ (m 100 (40 * s + i) < 0 ∨ 1 < m 100 (40 * s + i))) ∧ f9_was_b31 n (nI s) 1 (nI k) m = f9_was_b102 jN (nI s) (m 87 0) 16777215 0 m) ∨
    ((∃ i, k ≤ i ∧ i < N ∧ (m 100 (40 * s + i) < 0 ∨ 1 < m 100 (40 * s + i)) ∧ ∀ j, k ≤ j → j < i → ¬ (m 100 (40 * s + j) < 0 ∨ 1 < m 100 (40 * s + j))) ∧ f9_was_b31 n (nI s) 1 (nI k) m = Option.bind (f9_finding (-1000000002) m) fun r36 => some (r36.1, r36.2)) := by
  intro d
  induction d with
  | zero =>
    intro n k hk hd
    obtain ⟨n, rfl⟩ : ∃ n', n = n' + 1 := ⟨n - 1, by omega⟩
    refine Or.inl ⟨fun i h1 h2 => by omega, ?_⟩
    conv => lhs; unfold f9_was_b31
    rw [if_pos (jin_nI (by omega) (by omega)), nI_clamp (by omega), h99, if_pos (by rw [nI_leI (by omega) (by omega)]; omega), if_neg i10]
  | succ d ih =>
    intro n k hk hd
    obtain ⟨n, rfl⟩ : ∃ n', n = n' + 1 := ⟨n - 1, by omega⟩
    have un : f9_was_b31 (n + 1) (nI s) 1 (nI k) m = if (m 100 (40 * s + k) < 0 ∨ 1 < m 100 (40 * s + k)) then f9_was_b31 n (nI s) 0 (nI (k + 1)) m else f9_was_b31 n (nI s) 1 (nI (k + 1)) m := by
      conv => lhs; unfold f9_was_b31 f9_was_b68 f9_was_b69
      rw [if_pos (jin_nI (by omega) (by omega)), nI_clamp (by omega), h99, if_neg (by rw [nI_leI (by omega) (by omega)]; omega), if_neg i10, ix40, if_pos (jin_nI (by omega) (by omega)), nI_clamp (by omega), within_eq, ob, nI_1]
      by_cases e : m 100 (40 * s + k) < 0 ∨ 1 < m 100 (40 * s + k)
      · rw [if_pos e, if_pos e, if_pos rfl]
      · rw [if_neg e, if_neg e, if_neg i10]
    rw [un]
    by_cases e : m 100 (40 * s + k) < 0 ∨ 1 < m 100 (40 * s + k)
    · rw [if_pos e, was_ph0 hs h99 hN d n (k + 1) (by omega) (by omega)]
      exact Or.inr ⟨⟨k, by omega, by omega, e, fun j h1 h2 => by omega⟩, rfl⟩
    · rw [if_neg e]
      rcases ih n (k + 1) (by omega) (by omega) with ⟨h1, h2⟩ | ⟨⟨i, i1, i2, i3, i4⟩, h2⟩
      · refine Or.inl ⟨fun i h3 h4 => ?_, h2⟩
        by_cases q : i = k
        · rw [q]; exact e
        · exact h1 i (by omega) h4
      · refine Or.inr ⟨⟨i, by omega, i2, i3, fun j h3 h4 => ?_⟩, h2⟩
        by_cases q : j = k
        · rw [q]; exact e
        · exact i4 j (by omega) h4
theorem sh_row {s : Nat} (h : s < 4) : jrf (73 + 3 * s) 0 = 74 + 3 * s ∧ jO cPl (73 + 3 * s) 4 = true ∧ jO cPl (74 + 3 * s) 3 = true ∧ jRow (74 + 3 * s) 40 ∧ 74 + 3 * s + 1 = 75 + 3 * s := by
  obtain ⟨h1, h2, h3, h4, h5, h6, h7⟩ := sh_s s h
  exact ⟨h3, h2, h4, rs_sh h, by omega⟩
theorem was_bad {c0 m0 : JMu} (r : R c0 m0) {s N : Nat} (hs : s < 4) (hN : N ≤ 40) (i : Nat) (hi : i < N) (hb : m0 100 (40 * s + i) < 0 ∨ 1 < m0 100 (40 * s + i)) (hcn : c0 (74 + 3 * s) 1 = nI N) (hci : ∀ i, i < N → c0 (75 + 3 * s) i = m0 100 (40 * s + i)) :
    ∀ d n k (c : JMu) (v : Int32), HC c 1 (m0 87) → eH 1 c0 c → k + d = i → d < n → (∀ j, k ≤ j → j < i → ¬ (m0 100 (40 * s + j) < 0 ∨ 1 < m0 100 (40 * s + j))) →
    ∃ c', f8_was_b37 n (73 + 3 * s) v (nI k) c = (Option.bind (f8_fail (-1000000002) c') fun x => some (x.1, x.2)) ∧ HC c' 1 (m0 87) ∧ eH 1 c0 c' := by
  have g := r.2.1
  have n9 := r.2.2.1
  obtain ⟨x1, x2, x3, x4, x5⟩ := sh_row hs
  intro d
  induction d with
  | zero =>
    intro n k c v h1 h2 hk hd hg
    obtain ⟨n, rfl⟩ : ∃ n', n = n' + 1 := ⟨n - 1, by omega⟩
    obtain rfl : k = i := by omega
    have cn : c (74 + 3 * s) 1 = nI N := by rw [h2 _ (by omega)]; exact hcn
    refine ⟨c, ?_, h1, h2⟩
    unfold f8_was_b37
    rw [if_pos x2, x1, if_pos x3, cn, if_neg (by rw [nI_leI (by omega) (by omega)]; omega), get_in x4 (by omega) cn hi hN, ob, x5, h2 _ (by omega), hci k hi, outside_eq, ob, if_pos hb, if_neg i10]
  | succ d ih =>
    intro n k c v h1 h2 hk hd hg
    obtain ⟨n, rfl⟩ : ∃ n', n = n' + 1 := ⟨n - 1, by omega⟩
    have cn : c (74 + 3 * s) 1 = nI N := by rw [h2 _ (by omega)]; exact hcn
    have e0 : c 1 0 + nI k = nI (nN (m0 87) + k) := by rw [h1.1, (g_0 g).1, nI_add]
    obtain ⟨c1, a1, a2, a3⟩ := seenIn_eq jH1 h1 g (n := nN (m0 87) + k) (by omega)
    have gk := hg k (by omega) (by omega)
    unfold f8_was_b37 f8_was_b112
    rw [if_pos x2, x1, if_pos x3, cn, if_neg (by rw [nI_leI (by omega) (by omega)]; omega), get_in x4 (by omega) cn (by omega) hN, ob, x5, h2 _ (by omega), hci k (by omega), outside_eq, ob, if_neg gk, if_pos rfl, e0, a1, ob, nI_1]
    dsimp only
    split
    · exact ih n (k + 1) c1 _ a2 (eH_tr h2 a3) (by omega) (by omega) (fun j y1 y2 => hg j (by omega) y2)
    · exact ih n (k + 1) c1 _ a2 (eH_tr h2 a3) (by omega) (by omega) (fun j y1 y2 => hg j (by omega) y2)
theorem was_good {c0 m0 : JMu} (r : R c0 m0) {s N : Nat} (hs : s < 4) (hN : N ≤ 40) (h99 : m0 99 s = nI N) (hg : ∀ i, i < N → ¬ (m0 100 (40 * s + i) < 0 ∨ 1 < m0 100 (40 * s + i))) (hcn : c0 (74 + 3 * s) 1 = nI N) (hci : ∀ i, i < N → c0 (75 + 3 * s) i = m0 100 (40 * s + i)) :
    ∀ d n k (c m : JMu) (v : Int32), HC c 1 (m0 87) → m 87 = atN (m0 87) (nN (m0 87) + k) → eH 1 c0 c → eM m0 m → k + d = N → d < n →
    Ans (f8_was_b37 n (73 + 3 * s) v (nI k) c) (f9_was_b102 n (nI s) (m0 87 0) v (nI k) m) := by
  have g := r.2.1
  have n9 := r.2.2.1
  obtain ⟨x1, x2, x3, x4, x5⟩ := sh_row hs
  intro d
  induction d with
  | zero =>
    intro n k c m v h1 h2 h3 h4 hk hd
    obtain ⟨n, rfl⟩ : ∃ n', n = n' + 1 := ⟨n - 1, by omega⟩
    have cn : c (74 + 3 * s) 1 = nI N := by rw [h3 _ (by omega)]; exact hcn
    have mn : m 99 s = nI N := by rw [h4 _ (by omega) (by omega) (by omega)]; exact h99
    have kk : nI N ≤ nI k := by rw [nI_leI (by omega) (by omega)]; omega
    unfold f8_was_b37 f9_was_b102
    rw [if_pos x2, x1, if_pos x3, cn, if_pos kk, if_pos (jin_nI (by omega) (by omega)), nI_clamp (by omega), mn, if_pos kk]
    exact ⟨_, _, _, rfl, rfl, R_look r h1 h3 (by rw [jup_rs, h2]; exact atN_back g _) (eM_tr h4 (eM_up _ _ _))⟩
  | succ d ih =>
    intro n k c m v h1 h2 h3 h4 hk hd
    obtain ⟨n, rfl⟩ : ∃ n', n = n' + 1 := ⟨n - 1, by omega⟩
    have cn : c (74 + 3 * s) 1 = nI N := by rw [h3 _ (by omega)]; exact hcn
    have mn : m 99 s = nI N := by rw [h4 _ (by omega) (by omega) (by omega)]; exact h99
    have kk : ¬ nI N ≤ nI k := by rw [nI_leI (by omega) (by omega)]; omega
    have e0 : c 1 0 + nI k = nI (nN (m0 87) + k) := by rw [h1.1, (g_0 g).1, nI_add]
    obtain ⟨c1, a1, a2, a3⟩ := seenIn_eq jH1 h1 g (n := nN (m0 87) + k) (by omega)
    obtain ⟨m1, b1, b2, b3⟩ := seenAt g (n := nN (m0 87) + k) (by omega) h2
    have m10 : m1 87 0 + 1 = nI (nN (m0 87) + (k + 1)) := by rw [b2]; unfold atN; rw [up1_self, nI_1]; rfl
    have hm2 : (jup m1 87 0 (nI (nN (m0 87) + (k + 1)))) 87 = atN (m0 87) (nN (m0 87) + (k + 1)) := by rw [jup_rs, b2, atN_atN]
    have gk := hg k (by omega)
    have mk : m 100 (40 * s + k) = m0 100 (40 * s + k) := by rw [h4 _ (by omega) (by omega) (by omega)]
    unfold f8_was_b37 f8_was_b112 f9_was_b102 f9_was_b144
    rw [if_pos x2, x1, if_pos x3, cn, if_neg kk, if_pos (jin_nI (by omega) (by omega)), nI_clamp (n := s) (by omega), mn, if_neg kk, get_in x4 (by omega) cn (by omega) hN, ob, x5, h3 _ (by omega), hci k (by omega), outside_eq, ob, if_neg gk, if_pos rfl, e0, a1, ob, nI_1, ix40, if_pos (jin_nI (by omega) (by omega)), nI_clamp (by omega), mk, b1, ob, ob]
    dsimp only
    rw [m10]
    have nx := fun v => ih n (k + 1) c1 _ v a2 hm2 (eH_tr h3 a3) (eM_tr (eM_tr h4 b3) (eM_up _ _ _)) (by omega) (by omega)
    by_cases e : m0 100 (40 * s + k) = 1
    · rw [if_pos e, if_pos e]; exact nx _
    · rw [if_neg e, if_neg e]; exact nx _
theorem act_was {c m : JMu} (r : R c m) (x : Int32) : Ans (f8_was x c) (f9_was x m) := by
  unfold f8_was f9_was f9_was_b28
  rcases sheet_two c x with ⟨h1, h2⟩ | ⟨s, hs, rfl, h1, h2⟩
  · rw [h1, h2, ob, ob, if_pos rfl]; exact ans_err1 r
  · obtain ⟨n, w, n40, s99, w4, s98, cw, cn, ci⟩ := r.2.2.2.2.2.2.2.2.1 s hs
    obtain ⟨x1, x2, x3, x4, x5⟩ := sh_row hs
    obtain ⟨w1, w2⟩ := w0 w4
    rw [h1, h2, ob, ob, if_neg i10, if_pos (jin_nI hs (by omega)), nI_clamp (by omega), s98]
    dsimp only
    rw [if_pos x2]
    by_cases e : w = 0
    · rw [if_pos (by rw [cw, w1]; exact e), if_pos (by rw [w2]; exact e), show (0 : Int32) = nI 0 from rfl, show f9_was_b31 jN (nI s) (nI 0) (nI 0) m = _ from was_ph0 hs s99 n40 n jN 0 (by omega) (by unfold jN; omega)]
      exact ans_err2 r
    · rw [if_neg (by rw [cw, w1]; exact e), if_neg (by rw [w2]; exact e)]
      rcases was_ph1 (m := m) hs s99 n40 n jN 0 (by omega) (by unfold jN; omega) with ⟨q1, q2⟩ | ⟨⟨i, i1, i2, i3, i4⟩, q2⟩
      · rw [show f9_was_b31 jN (nI s) 1 0 m = _ from q2]
        exact was_good r hs n40 s99 (fun i hi => q1 i (by omega) hi) cn ci n jN 0 c m _ r.1 (atN_now r.2.1).symm (eH_rf _ _) (eM_rf _) (by omega) (by unfold jN; omega)
      · obtain ⟨c', a1, a2, a3⟩ := was_bad r hs n40 i i2 i3 cn ci i jN 0 c 16777215 r.1 (eH_rf _ _) (by omega) (by unfold jN; omega) (fun j _ hj => i4 j (by omega) hj)
        rw [show f9_was_b31 jN (nI s) 1 0 m = _ from q2, show f8_was_b37 jN (73 + 3 * s) 16777215 0 c = _ from a1]
        exact ans_err2 (R_look r a2 a3 rfl (eM_rf m))
-- leases, judge
theorem leases_loop {s N : Nat} (hs : s < 4) (hN : N ≤ 40) : ∀ d n k (c m : JMu), R c m → m 99 s = nI N → c (74 + 3 * s) 1 = nI N → (∀ i, i < N → c (75 + 3 * s) i = m 100 (40 * s + i)) → k + d = N → d < n →
    Ans (f8_leases_b33 n (73 + 3 * s) (nI k) c) (f9_leases_b33 n (nI s) (nI k) m) := by
  obtain ⟨x1, x2, x3, x4, x5⟩ := sh_row hs
  intro d
  induction d with
  | zero =>
    intro n k c m r h99 cn ci hk hd
    obtain ⟨n, rfl⟩ : ∃ n', n = n' + 1 := ⟨n - 1, by omega⟩
    obtain rfl : k = N := by omega
    have kk : nI k ≤ nI k := by rw [nI_leI (by omega) (by omega)]; omega
    unfold f8_leases_b33 f9_leases_b33
    rw [if_pos x2, x1, if_pos x3, cn, if_pos kk, if_pos (jin_nI hs (by omega)), nI_clamp (by omega), h99, if_pos kk]
    exact ⟨_, _, _, rfl, rfl, r⟩
  | succ d ih =>
    intro n k c m r h99 cn ci hk hd
    obtain ⟨n, rfl⟩ : ∃ n', n = n' + 1 := ⟨n - 1, by omega⟩
    have g2 := (g_n r.2.1).2
    have kk : ¬ nI N ≤ nI k := by rw [nI_leI (by omega) (by omega)]; omega
    unfold f8_leases_b33 f9_leases_b33
    rw [if_pos x2, x1, if_pos x3, cn, if_neg kk, if_pos (jin_nI hs (by omega)), nI_clamp (n := s) (by omega), h99, if_neg kk, get_in x4 (by omega) cn (by omega) hN, x5, ci k (by omega)]
    rcases ten_two r (nI k) with ⟨h1, h2⟩ | ⟨t, ht, ekt, h1, h2⟩
    · rw [h1, h2, ob, ob, isNoSet_eq, ob, ob, if_pos rfl]
      dsimp only
      have : (if (if m 100 (40 * s + k) < 0 ∨ 16777215 < m 100 (40 * s + k) then (1 : Int32) else 0) = 0 then some (nI k, c) else some (nI k, c)) = some (nI k, c) := by split <;> rfl
      rw [this]
      exact ⟨_, _, _, rfl, rfl, r⟩
    · obtain rfl : t = k := by
        rw [nI_eq (by omega) (by omega)] at ekt; exact ekt.symm
      have c4 := r.1.2.2.2.2.1 t 4 ht (by omega)
      rw [h1, h2, ob, ob, isNoSet_eq, ob, ob, if_neg i10, isOut_eq r.2.1 ht, ob, ix40, if_pos (jin_nI (by omega) (by omega)), nI_clamp (by omega), isSet_eq, ob, at2, ob, if_pos (jin_nI (by omega) (by omega)), if_pos (jin_nI (by omega) (by omega)), nI_clamp (by omega), nI_1]
      dsimp only
      rw [if_pos (tn1 (by omega))]
      by_cases e : m 87 (6 + 5 * t + 4) = 0
      · have ce : c (1 + 2 + t) 4 = 0 := by rw [c4]; exact e
        rw [if_pos ce, if_pos e]
        rcases rng (m 100 (40 * s + t)) 0 16777215 (by omega) (by omega) with h | ⟨h, q, -, h4, e5⟩
        · have h : m 100 (40 * s + t) < 0 ∨ 16777215 < m 100 (40 * s + t) := h
          rw [if_pos h, if_pos h, if_neg i10, if_pos rfl]
          exact ⟨_, _, _, rfl, rfl, r⟩
        · have h : ¬ (m 100 (40 * s + t) < 0 ∨ 16777215 < m 100 (40 * s + t)) := h
          rw [if_neg h, if_neg h, if_pos rfl, if_neg i10]
          refine ih n (t + 1) _ _ (R_ten (f := 2) r ht (Or.inr (Or.inr (Or.inl ⟨rfl, q, by omega, e5⟩)))) ?_ ?_ ?_ (by omega) (by omega)
          · rw [jup_row (by omega)]; exact h99
          · rw [jup_row (by omega)]; exact cn
          · rw [jup_row (by omega), jup_row (by omega)]; exact ci
      · have ce : ¬ c (1 + 2 + t) 4 = 0 := by rw [c4]; exact e
        rw [if_neg ce, if_neg e]
        have : (if (if m 100 (40 * s + t) < 0 ∨ 16777215 < m 100 (40 * s + t) then (1 : Int32) else 0) = 0 then some (nI t, c) else some (nI t, c)) = some (nI t, c) := by split <;> rfl
        rw [this]
        exact ⟨_, _, _, rfl, rfl, r⟩
theorem act_leases {c m : JMu} (r : R c m) (x : Int32) : Ans (f8_leases x c) (f9_leases x m) := by
  unfold f8_leases f9_leases
  rcases sheet_two c x with ⟨h1, h2⟩ | ⟨s, hs, rfl, h1, h2⟩
  · rw [h1, h2, ob, ob, if_pos rfl]; exact ans_err1 r
  · obtain ⟨n, w, n40, s99, w4, s98, cw, cn, ci⟩ := r.2.2.2.2.2.2.2.2.1 s hs
    obtain ⟨x1, x2, x3, x4, x5⟩ := sh_row hs
    obtain ⟨w1, w2⟩ := w0 w4
    rw [h1, h2, ob, ob, if_neg i10, if_pos (jin_nI hs (by omega)), nI_clamp (by omega), s98]
    dsimp only
    rw [if_pos x2]
    by_cases e : w = 0
    · rw [if_pos (by rw [cw, w1]; exact e), if_pos (by rw [w1]; exact e)]; exact ans_err2 r
    · rw [if_neg (by rw [cw, w1]; exact e), if_neg (by rw [w1]; exact e)]
      exact leases_loop hs n40 n jN 0 c m r s99 cn ci (by omega) (by unfold jN; omega)

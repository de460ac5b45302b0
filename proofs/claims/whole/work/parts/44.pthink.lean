/-! IMAGE, RESTORE, AND WHAT WOULD BE -/
theorem cp87_88 (m : JMu) : ∃ m', f9_copy 87 88 m = some m' ∧ (∀ j, j < 210 → m' 88 j = m 87 j) ∧ (∀ q, q ≠ 88 → m' q = m q) := copyM (by decide) (by decide +kernel) (by decide +kernel) (by decide +kernel) (by decide +kernel) m
theorem cp88_87 (m : JMu) : ∃ m', f9_copy 88 87 m = some m' ∧ (∀ j, j < 210 → m' 87 j = m 88 j) ∧ (∀ q, q ≠ 87 → m' q = m q) := copyM (by decide) (by decide +kernel) (by decide +kernel) (by decide +kernel) (by decide +kernel) m
theorem cp87_89 (m : JMu) : ∃ m', f9_copy 87 89 m = some m' ∧ (∀ j, j < 210 → m' 89 j = m 87 j) ∧ (∀ q, q ≠ 89 → m' q = m q) := copyM (by decide) (by decide +kernel) (by decide +kernel) (by decide +kernel) (by decide +kernel) m
theorem cp89_87 (m : JMu) : ∃ m', f9_copy 89 87 m = some m' ∧ (∀ j, j < 210 → m' 87 j = m 89 j) ∧ (∀ q, q ≠ 87 → m' q = m q) := copyM (by decide) (by decide +kernel) (by decide +kernel) (by decide +kernel) (by decide +kernel) m
theorem act_image {c m : JMu} (r : R c m) : Ans (f8_image c) (f9_image m) := by
  obtain ⟨hc, g, n9, u, r1, r2, r3, ⟨r4, r5⟩, r6, ⟨n, n1, n2, n3, n4⟩⟩ := r
  obtain ⟨c', a1, a2, a3⟩ := copy_eq jH1 jH21 (by decide) hc g r4 r5
  obtain ⟨m', b1, b2, b3⟩ := cp87_88 m
  have e0 : c' 0 8 = m' 86 3 := by rw [a3 0 (by omega), b3 86 (by omega)]; exact r1
  unfold f8_image f9_image
  rw [a1, b1, ob, ob, e0, jup_self, jup_self]
  have ga := GA_ag (B := m' 88) g b2
  refine ⟨_, _, _, rfl, rfl, ?_, ?_, ?_, ?_, ?_, ?_, ?_, ?_, ?_, ⟨n, n1, ?_, ?_, ?_⟩⟩
  · rw [jup_row (by omega), b3 87 (by omega)]
    exact HC_far hc g (fun q h1 h2 => by rw [jup_row (by omega)]; exact a3 q (by omega))
  · rw [jup_row (by omega), b3 87 (by omega)]; exact g
  · rw [jup_row (by omega), b3 87 (by omega)]; exact n9
  · rw [jup_row (by omega), jup_row (by omega), a3 53 (by omega), a3 57 (by omega)]; exact u
  · rw [jup_self, jup_self]
  · intro _
    rw [jup_row (by omega)]
    refine ⟨HC_far (HC_ag a2 g b2) ga.1 (fun q h1 h2 => jup_row (by omega)), ga.1, by rw [ga.2.2]; exact n9⟩
  · intro k hk
    rw [jup_row (by omega), jup_row (by omega), a3 85 (by omega), b3 90 (by omega)]; exact r3 k hk
  · rw [jup_row (by omega), jup_row (by omega)]
    exact ⟨a2.2.2.2.2.2.2.2.2.2.1, a2.2.2.2.2.2.2.2.2.2.2.2.1⟩
  · intro s hs
    unfold SH
    rw [jup_row (by omega), jup_row (by omega), jup_row (by omega), jup_row (by omega), jup_row (by omega), jup_row (by omega), a3 _ (by omega), a3 _ (by omega), a3 _ (by omega), b3 99 (by omega), b3 98 (by omega), b3 100 (by omega)]
    exact r6 s hs
  · rw [jup_col (by omega), b3 86 (by omega)]; exact n2
  · rw [jup_row (by omega), a3 67 (by omega)]; exact n3
  · intro i hi
    rw [jup_row (by omega), jup_row (by omega), a3 68 (by omega), b3 97 (by omega)]; exact n4 i hi
theorem act_restore {c m : JMu} (r : R c m) : Ans (f8_restore c) (f9_restore m) := by
  obtain ⟨hc, g, n9, u, rx⟩ := r
  obtain ⟨r1, r2, -⟩ := id rx
  unfold f8_restore f9_restore
  rw [← r1]
  by_cases e : c 0 8 = 0
  · rw [if_pos e, if_pos e]; exact ans_err2 ⟨hc, g, n9, u, rx⟩
  · obtain ⟨k1, k2, k3⟩ := r2 e
    obtain ⟨c', a1, a2, a3⟩ := copy_eq jH21 jH1 (by decide) k1 k2 hc.2.2.2.2.2.2.2.2.2.1 hc.2.2.2.2.2.2.2.2.2.2.2.1
    obtain ⟨m', b1, b2, b3⟩ := cp88_87 m
    have ga := GA_ag (B := m' 87) k2 b2
    have ha := HC_ag a2 k2 b2
    rw [if_neg e, if_neg e, a1, b1, ob, ob, ha.1]
    refine ⟨_, _, _, rfl, rfl, ha, ga.1, by rw [ga.2.2]; exact k3, by rw [a3 53 (by omega), a3 57 (by omega)]; exact u, RX_fr rx ?_ ?_ ?_ ?_ ?_ ?_⟩
    · rw [a3 0 (by omega)]
    · intro q h1 h2; exact a3 q (by omega)
    · intro q h; exact a3 q (by omega)
    · rw [b3 86 (by omega)]
    · rw [b3 86 (by omega)]
    · intro q h; exact b3 q (by omega)
theorem R_th {c c' m m' : JMu} (r : R c m) (e : eH 41 c c') (u : c' 53 0 = 0 ∧ c' 57 0 = 1) (a : ag (m 87) (m' 87)) (em : ∀ q, q ≠ 87 → q ≠ 89 → q ≠ 93 → q ≠ 94 → m' q = m q) : R c' m' := by
  obtain ⟨hc, g, n9, -, rx⟩ := r
  have ga := GA_ag g a
  refine ⟨HC_far (HC_ag hc g a) ga.1 (fun q h1 h2 => e q (by omega)), ga.1, by rw [ga.2.2]; exact n9, u, RX_fr rx ?_ ?_ ?_ ?_ ?_ ?_⟩
  · rw [e 0 (by omega)]
  · intro q h1 h2; exact e q (by omega)
  · intro q h; exact e q (by omega)
  · rw [em 86 (by omega) (by omega) (by omega) (by omega)]
  · rw [em 86 (by omega) (by omega) (by omega) (by omega)]
  · intro q h; exact em q (by omega) (by omega) (by omega) (by omega)
theorem HC_u {c : JMu} {A : Nat → Int32} (h : HC c 41 A) : c 53 0 = 0 ∧ c 57 0 = 1 := ⟨h.2.2.2.2.2.2.2.2.2.1, h.2.2.2.2.2.2.2.2.2.2.2.1⟩
theorem act_then {c m : JMu} (r : R c m) (x y w : Int32) : Ans (f8_then x y w c) (f9_then x y w m) := by
  have g := r.2.1
  have n9 := r.2.2.1
  have g2 := (g_n g).2
  unfold f8_then f9_then f8_then_b30 f9_then_b27
  rw [outside_eq, within_eq, ob, ob]
  rcases rng x 0 100 (by omega) (by omega) with h | ⟨h, N, h3, h4, rfl⟩
  · have h : x < 0 ∨ 100 < x := h
    rw [if_pos h, if_pos h, if_neg i10, if_pos rfl]; exact ans_err1 r
  · have h : ¬ (nI N < 0 ∨ 100 < nI N) := h
    rw [if_neg h, if_neg h, if_pos rfl, if_neg i10, outside_eq, within_eq, ob]
    rcases ten_two r y with ⟨h1, h2⟩ | ⟨t, ht, rfl, h1, h2⟩
    · rw [h1, h2, ob, ob, if_pos rfl]
      have : (if (if w < 0 ∨ 1 < w then (1 : Int32) else 0) = 0 then Option.bind (f8_fail (-1000000001) c) fun r16 => some (r16.1, r16.2) else Option.bind (f8_fail (-1000000001) c) fun r16 => some (r16.1, r16.2)) = Option.bind (f8_fail (-1000000001) c) fun r16 => some (r16.1, r16.2) := by split <;> rfl
      dsimp only
      rw [this]; exact ans_err1 r
    · rw [h1, h2, ob, ob, if_neg i10, ob]
      by_cases hw : w < 0 ∨ 1 < w
      · rw [if_pos hw, if_pos hw, if_neg i10, if_pos rfl]; exact ans_err1 r
      · obtain ⟨c1, a1, a2, a3⟩ := copy_eq jH1 jH41 (by decide) r.1 g r.2.2.2.1.1 r.2.2.2.1.2
        obtain ⟨m1, b1, b2, b3⟩ := cp87_89 m
        have m87 : m1 87 = m 87 := b3 87 (by omega)
        obtain ⟨c2, d1, d2, d3⟩ := passC_eq jH41 a2 g (N := N) (by omega) (by omega)
        obtain ⟨m2, e1, e2, e3⟩ := passM_eq (m := m1) (by rw [m87]; exact g) (N := N) (by omega) (by rw [m87]; omega)
        rw [m87] at e2
        obtain ⟨p1, p2, p3⟩ := GA_sPass g N (by omega)
        obtain ⟨m3, q1, q2, q3⟩ := cp89_87 m2
        have ht' : t < nT (sPass (m 87) N) := by rw [p2]; exact ht
        have hn' : c2 41 3 = nI (nT (m 87)) := by rw [d2.2.2.2.1, (g_n p1).1, p2]
        have rr : R c2 m3 := by
          refine R_th r (eH_tr a3 d3) (HC_u d2) ?_ ?_
          · intro j hj
            rw [q2 j hj, e3 89 (by omega) (by omega) (by omega), b2 j hj]
          · intro q x1 x2 x3 x4
            rw [q3 q x1, e3 q x1 x3 x4, b3 q x2]
        have cf : ∀ f, f < 5 → c2 (41 + 2 + t) f = m2 87 (6 + 5 * t + f) := fun f hf => by rw [e2]; exact d2.2.2.2.2.1 t f ht' hf
        rw [if_neg hw, if_neg hw, if_pos rfl, if_neg i10]
        dsimp only
        rw [a1, b1, ob, ob, d1, e1, ob, ob, find_in jH41 hn' g2 ht, ob]
        dsimp only
        rw [if_pos (tn_obj jH41 (by omega)), if_pos (tn_obj jH41 (by omega)), cf 3 (by omega), cf 2 (by omega)]
        unfold f9_then_b73 f9_putBack
        by_cases w0 : w = 0
        · rw [if_pos w0, if_pos w0, ten3 m2 (by omega), ob, q1]
          exact ⟨_, _, _, rfl, rfl, rr⟩
        · rw [if_neg w0, if_neg w0, ten2 m2 (by omega), ob, q1]
          exact ⟨_, _, _, rfl, rfl, rr⟩
theorem stays_loop {c0 m0 : JMu} (r : R c0 m0) {t : Nat} (ht : t < nT (m0 87)) : ∀ d n n' k (c m : JMu), HC c 41 (sPass (m0 87) k) → m 87 = sPass (m0 87) k → eH 41 c0 c → ag (m0 87) (m 89) → (∀ q, q ≠ 87 → q ≠ 89 → q ≠ 93 → q ≠ 94 → m q = m0 q) → sPass (m0 87) k (6 + 5 * t + 4) = 0 → k + d = 100 → d < n → d < n' →
    Ans (f8_stays_b47 n (nI t) (nI (k + 1)) c) (f9_stays_b43 n' (nI t) (nI k) m) := by
  have g := r.2.1
  have n9 := r.2.2.1
  have g2 := (g_n g).2
  have back : ∀ (c m : JMu) (A : Nat → Int32), HC c 41 A → eH 41 c0 c → ag (m0 87) (m 89) → (∀ q, q ≠ 87 → q ≠ 89 → q ≠ 93 → q ≠ 94 → m q = m0 q) → ∃ m', f9_copy 89 87 m = some m' ∧ R c m' := by
    intro c m A h1 h2 h3 h4
    obtain ⟨m3, q1, q2, q3⟩ := cp89_87 m
    refine ⟨m3, q1, R_th r h2 (HC_u h1) ?_ ?_⟩
    · intro j hj; rw [q2 j hj]; exact h3 j hj
    · intro q x1 x2 x3 x4; rw [q3 q x1]; exact h4 q x1 x2 x3 x4
  intro d
  induction d with
  | zero =>
    intro n n' k c m h1 h2 h3 h4 h5 h6 hk hd hd'
    obtain ⟨n, rfl⟩ : ∃ n', n = n' + 1 := ⟨n - 1, by omega⟩
    obtain ⟨n', rfl⟩ : ∃ n'', n' = n'' + 1 := ⟨n' - 1, by omega⟩
    obtain ⟨p1, p2, p3⟩ := GA_sPass g k (by omega)
    obtain ⟨m3, q1, q2⟩ := back c m _ h1 h3 h4 h5
    unfold f8_stays_b47 f9_stays_b43 f9_stays_b67
    rw [if_pos (by show nI 100 < _; rw [ltI (by omega) (by omega)]; omega), if_pos (by show nI 100 ≤ _; rw [nI_leI (by omega) (by omega)]; omega), isOut_eq (by rw [h2]; exact p1) (by rw [h2, p2]; exact ht), ob, q1, ob, h2, if_pos h6]
    exact ans_err2 q2
  | succ d ih =>
    intro n n' k c m h1 h2 h3 h4 h5 h6 hk hd hd'
    obtain ⟨n, rfl⟩ : ∃ n', n = n' + 1 := ⟨n - 1, by omega⟩
    obtain ⟨n', rfl⟩ : ∃ n'', n' = n'' + 1 := ⟨n' - 1, by omega⟩
    obtain ⟨p1, p2, p3⟩ := GA_sPass g k (by omega)
    obtain ⟨o1, o2, o3⟩ := GA_sPass g (k + 1) (by omega)
    obtain ⟨c1, a1, a2, a3⟩ := passC_eq jH41 h1 p1 (N := 1) (by omega) (by omega)
    obtain ⟨m1, b1, b2, b3⟩ := nightM_eq (m := m) (by rw [h2]; exact p1) (by rw [h2, p3]; omega)
    have hm1 : m1 87 = sPass (m0 87) (k + 1) := by rw [b2, h2]; rfl
    have hc1 : HC c1 41 (sPass (m0 87) (k + 1)) := a2
    have hn' : c1 41 3 = nI (nT (m0 87)) := by rw [hc1.2.2.2.1, (g_n o1).1, o2]
    have x3 := eH_tr h3 a3
    have x4 : ag (m0 87) (m1 89) := by rw [b3 89 (by omega) (by omega) (by omega)]; exact h4
    have x5 : ∀ q, q ≠ 87 → q ≠ 89 → q ≠ 93 → q ≠ 94 → m1 q = m0 q := fun q y1 y2 y3 y4 => by rw [b3 q y1 y3 y4]; exact h5 q y1 y2 y3 y4
    have c4 : c1 (41 + 2 + t) 4 = sPass (m0 87) (k + 1) (6 + 5 * t + 4) := hc1.2.2.2.2.1 t 4 (by rw [o2]; exact ht) (by omega)
    unfold f8_stays_b47 f9_stays_b43
    rw [if_neg (by show ¬ nI 100 < _; rw [ltI (by omega) (by omega)]; omega), if_neg (by show ¬ nI 100 ≤ _; rw [nI_leI (by omega) (by omega)]; omega), isOut_eq (by rw [h2]; exact p1) (by rw [h2, p2]; exact ht), ob, h2, if_pos h6, show (1 : Int32) = nI 1 from rfl, a1, ob, b1, ob, find_in jH41 hn' g2 ht, ob]
    dsimp only
    rw [if_pos (tn_obj jH41 (by omega)), show nI (k + 1) + nI 1 = nI (k + 1 + 1) from nI_1 _, show nI k + nI 1 = nI (k + 1) from nI_1 _]
    by_cases e : sPass (m0 87) (k + 1) (6 + 5 * t + 4) = 0
    · rw [if_pos (by rw [c4]; exact e)]
      exact ih n n' (k + 1) c1 m1 hc1 hm1 x3 x4 x5 e (by omega) (by omega) (by omega)
    · obtain ⟨m3, q1, q2⟩ := back c1 m1 _ hc1 x3 x4 x5
      rw [if_neg (by rw [c4]; exact e)]
      obtain ⟨n', rfl⟩ : ∃ n'', n' = n'' + 1 := ⟨n' - 1, by omega⟩
      have is1 : f9_isOut (nI t) m1 = some (sPass (m0 87) (k + 1) (6 + 5 * t + 4)) := by rw [isOut_eq (by rw [hm1]; exact o1) (by rw [hm1, o2]; exact ht), hm1]
      have fin : f9_stays_b67 (nI t) (nI (k + 1)) m1 = some (nI (k + 1), m3) := by
        unfold f9_stays_b67
        rw [is1, ob, q1, ob, if_neg e]
      have : f9_stays_b43 (n' + 1) (nI t) (nI (k + 1)) m1 = some (nI (k + 1), m3) := by
        unfold f9_stays_b43
        rw [is1, ob, if_neg e, fin]
        split <;> rfl
      rw [this]
      exact ⟨_, _, _, rfl, rfl, q2⟩
theorem act_stays {c m : JMu} (r : R c m) (x : Int32) : Ans (f8_stays x c) (f9_stays x m) := by
  have g := r.2.1
  have g2 := (g_n g).2
  unfold f8_stays f9_stays
  rcases ten_two r x with ⟨h1, h2⟩ | ⟨t, ht, rfl, h1, h2⟩
  · rw [h1, h2, ob, ob, if_pos rfl]; exact ans_err1 r
  · rw [h1, h2, ob, ob, if_neg i10, isOut_eq g ht, ob]
    dsimp only
    have c4 := r.1.2.2.2.2.1 t 4 ht (by omega)
    rw [if_pos (tn1 (by omega))]
    by_cases e : m 87 (6 + 5 * t + 4) = 0
    · obtain ⟨c1, a1, a2, a3⟩ := copy_eq jH1 jH41 (by decide) r.1 g r.2.2.2.1.1 r.2.2.2.1.2
      obtain ⟨m1, b1, b2, b3⟩ := cp87_89 m
      rw [if_pos (by rw [c4]; exact e), if_pos e, a1, b1, ob, ob]
      exact stays_loop r ht 100 jN jN 0 c1 m1 a2 (b3 87 (by omega)) a3 b2 (fun q _ x2 _ _ => b3 q x2) e (by omega) (by unfold jN; omega) (by unfold jN; omega)
    · rw [if_neg (by rw [c4]; exact e), if_neg e]; exact ans_err3 r

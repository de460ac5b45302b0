/-! ROOMS: the act -/
theorem R_ro {c c' m m' : JMu} (r : R c m) (e : ∀ q, q ≠ 70 → q ≠ 71 → c' q = c q) (em : ∀ q, q ≠ 86 → q ≠ 95 → q ≠ 96 → m' q = m q) (e16 : ∀ j, j ≠ 16 → m' 86 j = m 86 j) : R c' m' := by
  obtain ⟨r1, r2, r3, r4, r5⟩ := r
  unfold R
  rw [em 87 (by omega) (by omega) (by omega), e 53 (by omega) (by omega), e 57 (by omega) (by omega)]
  refine ⟨HC_far r1 r2 (fun q h1 h2 => e q (by omega) (by omega)), r2, r3, r4, RX_fr r5 ?_ ?_ ?_ ?_ ?_ ?_⟩
  · rw [e 0 (by omega) (by omega)]
  · intro q h1 h2; exact e q (by omega) (by omega)
  · intro q h; exact e q (by omega) (by omega)
  · exact e16 3 (by omega)
  · exact e16 18 (by omega)
  · intro q h; exact em q (by omega) (by omega) (by omega)
abbrev badW (v : Int32) : Prop := v < 0 ∨ 16777215 < v
theorem tells0 (s : Int32) (m : JMu) : f9_tellsWishes_b32 jN s 0 0 m = some (0, m) := by
  unfold jN f9_tellsWishes_b32
  by_cases e : m 87 1 ≤ 0
  · rw [if_pos e, if_pos (Or.inl rfl)]
  · rw [if_neg e, if_pos rfl, if_pos (Or.inl rfl)]
theorem tells_loop {s N : Nat} (hs : s < 4) (hN : N ≤ 6) {m0 : JMu} (h87 : m0 87 1 = nI N) : ∀ d f t m, t + d = N → d < f → (∀ q, q ≠ 95 → m q = m0 q) → (∀ j, j < t → m 95 j = m0 100 (40 * s + j)) →
    ((∃ i, t ≤ i ∧ i < N ∧ badW (m0 100 (40 * s + i))) ∧ ∃ m', f9_tellsWishes_b32 f (nI s) 1 (nI t) m = some (0, m') ∧ (∀ q, q ≠ 95 → m' q = m0 q)) ∨
    ((∀ i, t ≤ i → i < N → ¬ badW (m0 100 (40 * s + i))) ∧ ∃ m', f9_tellsWishes_b32 f (nI s) 1 (nI t) m = some (1, m') ∧ (∀ q, q ≠ 95 → m' q = m0 q) ∧ ∀ j, j < N → m' 95 j = m0 100 (40 * s + j)) := by
  intro d
  induction d with
  | zero =>
    intro f t m ht hf h1 h2
    obtain ⟨f, rfl⟩ : ∃ q, f = q + 1 := ⟨f - 1, by omega⟩
    refine Or.inr ⟨fun i _ _ => by omega, m, ?_, h1, fun j hj => h2 j (by omega)⟩
    unfold f9_tellsWishes_b32
    rw [h1 87 (by omega), h87, if_pos (by rw [nI_leI (by omega) (by omega)]; omega), if_pos (Or.inr rfl)]
  | succ d ih =>
    intro f t m ht hf h1 h2
    obtain ⟨f, rfl⟩ : ∃ q, f = q + 1 := ⟨f - 1, by omega⟩
    have fr : ∀ q, q ≠ 95 → (jup m 95 t (m0 100 (40 * s + t))) q = m0 q := fun q hq => by rw [jup_row hq]; exact h1 q hq
    have un : f9_tellsWishes_b32 (f + 1) (nI s) 1 (nI t) m = f9_tellsWishes_b32 f (nI s) (if badW (m0 100 (40 * s + t)) then 0 else 1) (nI (t + 1)) (jup m 95 t (m0 100 (40 * s + t))) := by
      conv => lhs; unfold f9_tellsWishes_b32
      rw [h1 87 (by omega), h87, if_neg (by rw [nI_leI (by omega) (by omega)]; omega), if_neg i10, ix40, if_pos (jin_nI (by omega) (by omega)), if_pos (jin_nI (by omega) (by omega)), if_pos (jin_nI (by omega) (by omega)), nI_clamp (by omega), nI_clamp (by omega), h1 100 (by omega), jup_self, isSet_eq, ob, nI_1]
    by_cases b : badW (m0 100 (40 * s + t))
    · refine Or.inl ⟨⟨t, by omega, by omega, b⟩, jup m 95 t (m0 100 (40 * s + t)), ?_, fr⟩
      rw [un, if_pos b]
      obtain ⟨f, rfl⟩ : ∃ q, f = q + 1 := ⟨f - 1, by omega⟩
      unfold f9_tellsWishes_b32
      by_cases e : jup m 95 t (m0 100 (40 * s + t)) 87 1 ≤ nI (t + 1)
      · rw [if_pos e, if_pos (Or.inl rfl)]
      · rw [if_neg e, if_pos rfl, if_pos (Or.inl rfl)]
    · rw [un, if_neg b]
      rcases ih f (t + 1) _ (by omega) (by omega) fr (fun j hj => by
        by_cases q : j = t
        · subst q; rw [jup_self]
        · rw [jup_col q]; exact h2 j (by omega)) with ⟨⟨i, i1, i2, i3⟩, q⟩ | ⟨i1, q⟩
      · exact Or.inl ⟨⟨i, by omega, i2, i3⟩, q⟩
      · refine Or.inr ⟨fun i j1 j2 => ?_, q⟩
        by_cases e : i = t
        · rw [e]; exact b
        · exact i1 i (by omega) j2
theorem roomsC_bad {c : JMu} {s N : Nat} (hs : s < 4) (hN : N ≤ 40) (cn : c (74 + 3 * s) 1 = nI N) (v : Int32) {i : Nat} (hi : i < N) (hb : badW (c (75 + 3 * s) i)) : ∀ d f t, t + d = i → d < f → (∀ j, t ≤ j → j < i → ¬ badW (c (75 + 3 * s) j)) →
    f8_rooms_b68 f v (73 + 3 * s) (nI t) c = Option.bind (f8_fail (-1000000002) c) fun r34 => some (r34.1, r34.2) := by
  obtain ⟨x1, x2, x3, x4, x5⟩ := sh_row hs
  have step : ∀ f t, t < N → f8_rooms_b68 (f + 1) v (73 + 3 * s) (nI t) c = if badW (c (75 + 3 * s) t) then (Option.bind (f8_fail (-1000000002) c) fun r34 => some (r34.1, r34.2)) else f8_rooms_b68 f v (73 + 3 * s) (nI (t + 1)) c := by
    intro f t htN
    conv => lhs; unfold f8_rooms_b68
    rw [if_pos x2, x1, if_pos x3, cn, if_neg (by rw [nI_leI (by omega) (by omega)]; omega), get_in x4 (by omega) cn htN hN, ob, x5, isNoSet_eq, ob, nI_1]
    by_cases b : badW (c (75 + 3 * s) t)
    · have b' : c (75 + 3 * s) t < 0 ∨ 16777215 < c (75 + 3 * s) t := b
      rw [if_pos b', if_pos b, if_neg i10]
    · have b' : ¬ (c (75 + 3 * s) t < 0 ∨ 16777215 < c (75 + 3 * s) t) := b
      rw [if_neg b', if_neg b, if_pos rfl]
  intro d
  induction d with
  | zero =>
    intro f t ht hf _
    obtain ⟨f, rfl⟩ : ∃ q, f = q + 1 := ⟨f - 1, by omega⟩
    obtain rfl : t = i := by omega
    rw [step f t hi, if_pos hb]
  | succ d ih =>
    intro f t ht hf h
    obtain ⟨f, rfl⟩ : ∃ q, f = q + 1 := ⟨f - 1, by omega⟩
    rw [step f t (by omega), if_neg (h t (by omega) (by omega))]
    exact ih f (t + 1) (by omega) (by omega) (fun j j1 j2 => h j (by omega) j2)
theorem roomsC_good {c : JMu} {s N : Nat} (hs : s < 4) (hN : N ≤ 40) (cn : c (74 + 3 * s) 1 = nI N) (v : Int32) : ∀ d f t, t + d = N → d < f → (∀ j, t ≤ j → j < N → ¬ badW (c (75 + 3 * s) j)) →
    f8_rooms_b68 f v (73 + 3 * s) (nI t) c = Option.bind (f3_copyFrom 70 (74 + 3 * s) c) fun r27 => if 0 ≤ v then Option.bind (f7_roomOf v r27) fun r29 => some (r29, r27) else Option.bind (f7_mostFrom 0 0 r27) fun r30 => some (r30, r27) := by
  obtain ⟨x1, x2, x3, x4, x5⟩ := sh_row hs
  intro d
  induction d with
  | zero =>
    intro f t ht hf _
    obtain ⟨f, rfl⟩ : ∃ q, f = q + 1 := ⟨f - 1, by omega⟩
    unfold f8_rooms_b68
    rw [if_pos x2, x1, if_pos x3, cn, if_pos (by rw [nI_leI (by omega) (by omega)]; omega)]
  | succ d ih =>
    intro f t ht hf h
    obtain ⟨f, rfl⟩ : ∃ q, f = q + 1 := ⟨f - 1, by omega⟩
    have b' : ¬ (c (75 + 3 * s) t < 0 ∨ 16777215 < c (75 + 3 * s) t) := h t (by omega) (by omega)
    unfold f8_rooms_b68
    rw [if_pos x2, x1, if_pos x3, cn, if_neg (by rw [nI_leI (by omega) (by omega)]; omega), get_in x4 (by omega) cn (by omega) hN, ob, x5, isNoSet_eq, ob, nI_1, if_neg b', if_pos rfl]
    exact ih f (t + 1) (by omega) (by omega) (fun j j1 j2 => h j (by omega) j2)
/-- the last one of the check's: where the one bit is -/
theorem where_no {m : JMu} {t : Nat} (ht : t < 6) (h : m 95 t = 0) (v : Int32) : ∀ d f x, x + d = 24 → d < f → f9_rooms_b68 f (nI t) v (nI x) m = some (v, m) := by
  intro d
  induction d with
  | zero =>
    intro f x hx hf
    obtain ⟨f, rfl⟩ : ∃ q, f = q + 1 := ⟨f - 1, by omega⟩
    unfold f9_rooms_b68
    rw [if_pos (by show nI 24 ≤ _; rw [nI_leI (by omega) (by omega)]; omega)]
  | succ d ih =>
    intro f x hx hf
    obtain ⟨f, rfl⟩ : ∃ q, f = q + 1 := ⟨f - 1, by omega⟩
    unfold f9_rooms_b68 f9_rooms_b95
    rw [if_neg (by show ¬ nI 24 ≤ _; rw [nI_leI (by omega) (by omega)]; omega), if_pos (jin_nI (by omega) (by omega)), nI_clamp (by omega), h, if_neg (one_n0 (by omega)), nI_1]
    exact ih f (x + 1) (by omega) (by omega)
theorem where_is {m : JMu} {t y : Nat} (ht : t < 6) (hy : y < 24) (h : m 95 t = oneOf (nI y)) : ∀ d f x v, x + d = 24 → d < f → (y < x → v = nI y) → f9_rooms_b68 f (nI t) v (nI x) m = some (nI y, m) := by
  intro d
  induction d with
  | zero =>
    intro f x v hx hf hv
    obtain ⟨f, rfl⟩ : ∃ q, f = q + 1 := ⟨f - 1, by omega⟩
    unfold f9_rooms_b68
    rw [if_pos (by show nI 24 ≤ _; rw [nI_leI (by omega) (by omega)]; omega), hv (by omega)]
  | succ d ih =>
    intro f x v hx hf hv
    obtain ⟨f, rfl⟩ : ∃ q, f = q + 1 := ⟨f - 1, by omega⟩
    unfold f9_rooms_b68 f9_rooms_b95
    rw [if_neg (by show ¬ nI 24 ≤ _; rw [nI_leI (by omega) (by omega)]; omega), if_pos (jin_nI (by omega) (by omega)), nI_clamp (by omega), h, nI_1]
    by_cases e : x = y
    · rw [if_pos ((oneOf_eq (by omega) hy).mpr e)]
      exact ih f (x + 1) _ (by omega) (by omega) (fun _ => by rw [e])
    · rw [if_neg (fun q => e ((oneOf_eq (by omega) hy).mp q))]
      exact ih f (x + 1) _ (by omega) (by omega) (fun q => hv (by omega))
theorem good_bits {v : Int32} (h : ¬ badW v) (x : Nat) (hx : 24 ≤ x) : bt v x = false := by
  rcases rng v 0 16777215 (by omega) (by omega) with q | ⟨-, k, -, k2, rfl⟩
  · exact absurd q h
  · by_cases e : x < 32
    · rw [bt_nI (by omega) e]
      exact Nat.testBit_lt_two_pow (Nat.lt_of_lt_of_le (by omega : k < 2 ^ 24) (Nat.pow_le_pow_right (by omega) hx))
    · exact b_big (by omega)
theorem wh_two (a N : Nat) (x : Int32) (hN : N ≤ 6) : (x < -1 ∨ nI N - 1 < x) ∨ (¬ (x < -1 ∨ nI N - 1 < x) ∧ (x = -1 ∨ ∃ t, t < N ∧ x = nI t)) := by
  by_cases h : x < -1 ∨ nI N - 1 < x
  · exact Or.inl h
  · refine Or.inr ⟨h, ?_⟩
    have z1 : (1 : Int32).toInt = 1 := rfl
    have zm : (-1 : Int32).toInt = -1 := rfl
    have zn := nI_toInt (n := N) (by omega)
    rw [not_or, fa_lt, fa_lt, fb_subI (by omega) (by omega)] at h
    by_cases e : x.toInt = -1
    · exact Or.inl (by rw [fa_eq]; omega)
    · refine Or.inr ⟨x.toInt.toNat, by omega, ?_⟩
      rw [fa_eq, nI_toInt (by omega)]; omega
theorem act_rooms {c m : JMu} (r : R c m) (x w : Int32) : Ans (f8_rooms x w c) (f9_rooms x w m) := by
  unfold f8_rooms f9_rooms f8_rooms_b27 f9_rooms_b23 f8_rooms_b58
  rcases sheet_two c x with ⟨h1, h2⟩ | ⟨s, hs, rfl, h1, h2⟩
  · rw [h1, h2, ob, ob, if_pos rfl]; exact ans_err1 r
  · obtain ⟨n, wd, n40, s99, w4, s98, cw, cn, ci⟩ := r.2.2.2.2.2.2.2.2.1 s hs
    obtain ⟨x1, x2, x3, x4, x5⟩ := sh_row hs
    obtain ⟨w1, w2⟩ := w0 w4
    obtain ⟨g1, g2⟩ := g_n r.2.1
    have hn : c 1 3 = nI (nT (m 87)) := r.1.2.2.2.1.trans g1
    generalize hNN : nT (m 87) = N at *
    rw [h1, h2, ob, ob, if_neg i10, within_eq, ob]
    dsimp only
    rw [outside_eq, ob, hn, g1]
    rcases wh_two 0 N w g2 with h | ⟨h, hw⟩
    · rw [if_pos h, if_pos h, if_neg i10, if_pos rfl]; exact ans_err1 r
    · rw [if_neg h, if_neg h, if_pos rfl, if_neg i10, if_pos x2, cw, x1, if_pos x3, cn]
      unfold f9_tellsWishes f9_tellsWishes_b28 f9_tellsWishes_b29
      rw [if_pos (jin_nI hs (by omega)), nI_clamp (by omega), s98, if_pos (jin_nI hs (by omega)), s99, g1]
      by_cases e : wd = 0
      · rw [if_pos (w1.mpr e), if_pos (w2.mpr e), tells0, ob]
        dsimp only
        rw [if_pos rfl]; exact ans_err2 r
      · rw [if_neg (fun q => e (w1.mp q)), if_neg (fun q => e (w2.mp q))]
        by_cases e2 : n = N
        · subst e2
          rw [if_pos rfl, if_pos rfl]
          rcases tells_loop hs g2 g1 n jN 0 m (by omega) (by unfold jN; omega) (fun _ _ => rfl) (fun j hj => by omega) with ⟨⟨i, -, i2, i3⟩, m', q1, q2⟩ | ⟨i1, m', q1, q2, q3⟩
          · -- a bad one: the first of them
            have first : ∀ i, i < n → badW (c (75 + 3 * s) i) → ∃ j, j < n ∧ badW (c (75 + 3 * s) j) ∧ ∀ k, k < j → ¬ badW (c (75 + 3 * s) k) := by
              intro i
              induction i using Nat.strongRecOn with
              | _ i ih =>
                intro hi hb
                by_cases q : ∃ k, k < i ∧ badW (c (75 + 3 * s) k)
                · obtain ⟨k, k1, k2⟩ := q
                  exact ih k k1 (by omega) k2
                · exact ⟨i, hi, hb, fun k hk hb' => q ⟨k, hk, hb'⟩⟩
            obtain ⟨j, j1, j2, j3⟩ := first i i2 (by rw [ci i i2]; exact i3)
            rw [show f9_tellsWishes_b32 jN (nI s) 1 0 m = _ from q1, ob]
            dsimp only
            rw [if_pos rfl, show f8_rooms_b68 jN w (73 + 3 * s) 0 c = _ from roomsC_bad hs n40 cn w j1 j2 j jN 0 (by omega) (by unfold jN; omega) (fun k _ hk => j3 k hk)]
            exact ans_err2 (R_ro r (fun _ _ _ => rfl) (fun q _ h _ => q2 q h) (fun j _ => by rw [q2 86 (by omega)]))
          · have good : ∀ j, j < n → ¬ badW (c (75 + 3 * s) j) := fun j hj => by rw [ci j hj]; exact i1 j (Nat.zero_le _) hj
            obtain ⟨c1, b1, b2, b3, b4, b5⟩ := row_copy (c := c) x4 rs_70 (by omega) (by omega) (by omega) (by omega) (by omega) cn n40 g2
            rw [show f9_tellsWishes_b32 jN (nI s) 1 0 m = _ from q1, ob]
            dsimp only
            rw [if_neg i10, show f8_rooms_b68 jN w (73 + 3 * s) 0 c = _ from roomsC_good hs n40 cn w n jN 0 (by omega) (by unfold jN; omega) (fun j _ hj => good j hj), b1, ob]
            have c71 : ∀ i, i < n → c1 71 i = c (75 + 3 * s) i := fun i hi => by rw [← x5]; exact b3 i hi
            have hW : ∀ j, j < n → c1 71 j = m' 95 j := fun j hj => by rw [c71 j hj, ci j hj, q3 j hj]
            have hS : ∀ j, j < n → ∀ x, 24 ≤ x → bt (c1 71 j) x = false := fun j hj x hx => good_bits (by rw [c71 j hj]; exact good j hj) x hx
            have m87 : m' 87 1 = nI n := by rw [q2 87 (by omega)]; exact g1
            obtain ⟨k, m2, a1, a2, a3, a4⟩ := mostRooms_eq (m := m') g2 m87
            obtain ⟨K, k1, k2, k3⟩ := mostFrom_eq (c := c1) g2 (i := 0) (Nat.zero_le _) b2 hS 0
            have k4 : Mn (Wb (c1 71)) n 0 (fun _ => false) k := Mn_cg (fun j hj x _ => by show bt (m' 95 j) x = bt (c1 71 j) x; rw [hW j hj]) (fun _ _ => rfl) a4
            have kK : K = k := Mn_uniq (Mn_cg (fun _ _ _ _ => rfl) (fun x _ => b_0 x) k3) k4
            subst kK
            rw [a1, ob]
            dsimp only
            have rc : ∀ q, q ≠ 70 → q ≠ 71 → c1 q = c q := fun q h1 h2 => b4 q h1 h2
            rcases hw with rfl | ⟨t, ht, rfl⟩
            · rw [if_neg (by decide), if_neg (by decide), show f7_mostFrom 0 0 c1 = _ from k1, ob]
              exact ⟨_, _, _, rfl, rfl, R_ro r rc (fun q h1 h2 h3 => by rw [a3.1 q h1 h3]; exact q2 q h2) (fun j hj => by rw [a3.2 j hj, q2 86 (by omega)])⟩
            · rw [if_pos (nI_pos' (by omega)), if_pos (nI_pos' (by omega))]
              have ro : f7_roomOf (nI t) c1 = some (rR c1 t) := roomOf_loop g2 ht b2 hS (t + 1) jN 0 (-1) (by omega) (by unfold jN; omega) (fun h => by omega)
              have fk95 : m2 95 = m' 95 := a3.1 95 (by omega) (by omega)
              obtain ⟨m3, d1, d2, d3⟩ := settle_loop (c := c1) (m1 := m2) (k0 := K) g2 b2 (by rw [a3.1 87 (by omega) (by omega)]; exact m87) hS (fun j hj => by rw [fk95]; exact hW j hj) k2 n jN 0 m2 (by omega) (by unfold jN; omega)
                ⟨fun _ _ _ _ => rfl, fun _ _ => rfl⟩ (fun _ _ => rfl) (fun j hj => by omega) ⟨K, k3, by
                  have : fb_ct (bt (rT c1 0)) 24 = 0 := fb_ct_zero.mpr (fun k _ => b_0 k)
                  omega⟩
              unfold f9_settle
              rw [ro, ob, show f9_settle_b2 jN (nI K) 0 m2 = _ from d1, ob]
              have rr : R c1 m3 := R_ro r rc (fun q h1 h2 h3 => by rw [d2.1 q h1 h2 h3, a3.1 q h1 h3]; exact q2 q h2) (fun j hj => by rw [d2.2 j hj, a3.2 j hj, q2 86 (by omega)])
              have is := d3 t ht
              rcases rr_two (rf_all g2 ht b2 hS) with ⟨y, y1, y2⟩ | y2
              · rw [y2] at is ⊢
                refine ⟨_, _, _, rfl, ?_, rr⟩
                exact where_is (by omega) y1 is 24 jN 0 (-1) (by omega) (by unfold jN; omega) (fun h => by omega)
              · rw [y2, oneOf_no] at is
                rw [y2]
                refine ⟨_, _, _, rfl, ?_, rr⟩
                exact where_no (by omega) is (-1) 24 jN 0 (by omega) (by unfold jN; omega)
        · have : ¬ nI n = nI N := by rw [nI_eq (by omega) (by omega)]; exact e2
          rw [if_neg this, if_neg this, tells0, ob]
          dsimp only
          rw [if_pos rfl]; exact ans_err2 r

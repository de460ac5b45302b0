/-! LEAST, BESIDE -/
theorem sum_zero (f : Nat → Nat) : ∀ n, sumN f n = 0 ↔ ∀ i, i < n → f i = 0
  | 0 => by simp [sumN]
  | n + 1 => by
    unfold sumN
    constructor
    · intro h i hi
      by_cases e : i = n
      · subst e; omega
      · exact (sum_zero f n).mp (by omega) i (by omega)
    · intro h
      have := (sum_zero f n).mpr (fun i hi => h i (by omega))
      have := h n (by omega)
      omega
def Pc (A : Nat → Int32) (S : Int32) : Prop := ∀ i j, i < nT A → j < nT A → bt S i = false → bt S j = false → clB A i j = false
theorem Pc_iff (A : Nat → Int32) (S : Int32) : sumN (prS A S) (nT A) = 0 ↔ Pc A S := by
  rw [sum_zero]
  constructor
  · intro h i j hi hj bi bj
    have key : ∀ i j, i < nT A → j < i → bt S i = false → bt S j = false → clB A i j = false := by
      intro i j hi hj bi bj
      have := fb_ct_zero.mp (h i hi) j hj
      simp only [bi, bj] at this
      exact this
    by_cases e : i = j
    · subst e; exact clB_irr A i
    · by_cases q : j < i
      · exact key i j hi q bi bj
      · rw [clB_sym]; exact key j i hj (by omega) bj bi
  · intro h i hi
    apply fb_ct_zero.mpr
    intro j hj
    cases bi : bt S i
    · cases bj : bt S j
      · rw [h i j hi (by omega) bi bj]; rfl
      · rfl
    · rfl
theorem z_bits {x : Int32} : x = 0 ↔ ∀ i, i < 32 → bt x i = false := by
  constructor
  · rintro rfl i _; exact b_0 i
  · intro h; apply b_ext; intro i hi; rw [h i hi, b_0]
theorem peace_loop {c : JMu} {A : Nat → Int32} (hc : HC c 1 A) (g : GA A) (S : Int32) : ∀ d n k, k + d = nT A → d < n →
    ((∀ i, k ≤ i → i < nT A → bt S i = false → ∀ j, j < nT A → bt S j = false → clB A i j = false) ∧ f0_isPeaceWithout_b2 1 n S (nI k) c = some 1) ∨
    ((∃ i j, k ≤ i ∧ i < nT A ∧ bt S i = false ∧ j < nT A ∧ bt S j = false ∧ clB A i j = true) ∧ f0_isPeaceWithout_b2 1 n S (nI k) c = some 0) := by
  obtain ⟨g1, g2⟩ := g_n g
  have hn : c 1 3 = nI (nT A) := hc.2.2.2.1.trans g1
  intro d
  induction d with
  | zero =>
    intro n k hk hd
    obtain ⟨n, rfl⟩ : ∃ n', n = n' + 1 := ⟨n - 1, by omega⟩
    refine Or.inl ⟨fun i h1 h2 => by omega, ?_⟩
    unfold f0_isPeaceWithout_b2
    rw [hn, if_pos (by rw [nI_leI (by omega) (by omega)]; omega)]
  | succ d ih =>
    intro n k hk hd
    obtain ⟨n, rfl⟩ : ∃ n', n = n' + 1 := ⟨n - 1, by omega⟩
    have i1 := ih n (k + 1) (by omega) (by omega)
    have ext : bt S k = true ∨ (∀ j, j < nT A → bt S j = false → clB A k j = false) → f0_isPeaceWithout_b2 1 (n + 1) S (nI k) c = f0_isPeaceWithout_b2 1 n S (nI (k + 1)) c →
      ((∀ i, k ≤ i → i < nT A → bt S i = false → ∀ j, j < nT A → bt S j = false → clB A i j = false) ∧ f0_isPeaceWithout_b2 1 (n + 1) S (nI k) c = some 1) ∨ ((∃ i j, k ≤ i ∧ i < nT A ∧ bt S i = false ∧ j < nT A ∧ bt S j = false ∧ clB A i j = true) ∧ f0_isPeaceWithout_b2 1 (n + 1) S (nI k) c = some 0) := by
      intro h e
      rw [e]
      rcases i1 with ⟨p1, p2⟩ | ⟨⟨i, j, q1, q2⟩, p2⟩
      · refine Or.inl ⟨fun i h1 h2 bi => ?_, p2⟩
        by_cases ei : i = k
        · rcases h with h | h
          · rw [ei, h] at bi; exact absurd bi (by decide)
          · rw [ei]; exact h
        · exact p1 i (by omega) h2 bi
      · exact Or.inr ⟨⟨i, j, by omega, q2⟩, p2⟩
    by_cases e : bt S k = false
    · by_cases e2 : sCl A k (nT A) &&& (S ^^^ (-1)) = 0
      · apply ext
        · right
          intro j hj bj
          have := z_bits.mp e2 j (by omega)
          rw [b_and, b_xor, b_m1 j (by omega), bj, sCl_bt A k (by omega) _ (by omega)] at this
          simpa [hj] using this
        · conv => lhs; unfold f0_isPeaceWithout_b2
          rw [hn, if_neg (by rw [nI_leI (by omega) (by omega)]; omega), if_pos ((b_sel0 S k (by omega)).mpr e), cl_eq jH1 hc g (by omega), ob, if_pos e2, nI_1]
      · right
        constructor
        · apply Classical.byContradiction
          intro no
          apply e2
          rw [z_bits]
          intro j hj
          rw [b_and, b_xor, b_m1 j hj, sCl_bt A k hj _ (by omega)]
          by_cases q1 : j < nT A
          · cases q2 : bt S j
            · cases q3 : clB A k j
              · simp
              · exact absurd ⟨k, j, Nat.le_refl _, by omega, e, q1, q2, q3⟩ no
            · simp
          · simp [q1]
        · unfold f0_isPeaceWithout_b2
          rw [hn, if_neg (by rw [nI_leI (by omega) (by omega)]; omega), if_pos ((b_sel0 S k (by omega)).mpr e), cl_eq jH1 hc g (by omega), ob, if_neg e2]
    · have e' : bt S k = true := by simpa using e
      apply ext (Or.inl e')
      conv => lhs; unfold f0_isPeaceWithout_b2
      rw [hn, if_neg (by rw [nI_leI (by omega) (by omega)]; omega), if_neg (by rw [b_sel0 S k (by omega)]; exact e), nI_1]
theorem peace_eq {c : JMu} {A : Nat → Int32} (hc : HC c 1 A) (g : GA A) (S : Int32) : (Pc A S ∧ f0_isPeaceWithout 1 S c = some 1) ∨ (¬ Pc A S ∧ f0_isPeaceWithout 1 S c = some 0) := by
  unfold f0_isPeaceWithout
  rw [if_pos (hs_obj jH1)]
  rcases peace_loop hc g S (nT A) jN 0 (by omega) (by have := (g_n g).2; unfold jN; omega) with ⟨p1, p2⟩ | ⟨⟨i, j, q1, q2, q3, q4, q5, q6⟩, p2⟩
  · exact Or.inl ⟨fun i j hi hj bi bj => p1 i (by omega) hi bi j hj bj, p2⟩
  · refine Or.inr ⟨fun h => ?_, p2⟩
    rw [h i j q2 q4 q3 q5] at q6
    exact absurd q6 (by decide)
theorem pc_full : ∀ n, n < 7 → fb_ct (2 ^ n - 1).testBit 32 = n ∧ ∀ k, k < 2 ^ n → n ≤ fb_ct k.testBit 32 → k = 2 ^ n - 1 := by decide +kernel
theorem bt_full : ∀ n, n < 7 → ∀ i, i < n → (2 ^ n - 1).testBit i = true := by decide +kernel
theorem p2le : ∀ n, n < 7 → 1 ≤ 2 ^ n ∧ 2 ^ n ≤ 64 := by decide
theorem least_loop {c m : JMu} (r : R c m) (w : Int32) : ∀ d n n' k b bm, k + d = 2 ^ nT (m 87) → d < n → d < n' → b < 2 ^ nT (m 87) → ((bm = nI b) ∨ (bm = -1 ∧ b = 2 ^ nT (m 87) - 1 ∧ k < 2 ^ nT (m 87))) →
    ∃ e, e < 2 ^ nT (m 87) ∧ f0_leastToGiveUp_b11 1 n (nI b) (nI k) c = some (nI e) ∧ f9_least_b20 n' w bm (nI k) m = some (if w = 0 then nI (pcI (nI e)) else nI e, m) := by
  have g := r.2.1
  obtain ⟨g1, g2⟩ := g_n g
  have hn : c 1 3 = nI (nT (m 87)) := r.1.2.2.2.1.trans g1
  obtain ⟨t1, t2⟩ := p2le (nT (m 87)) (by omega)
  obtain ⟨f1, f2⟩ := pc_full (nT (m 87)) (by omega)
  have sh : (1 : Int32) <<< (nI (nT (m 87)) &&& 31) = nI (2 ^ nT (m 87)) := one_nI (by omega)
  intro d
  induction d with
  | zero =>
    intro n n' k b bm hk hd hd' hb hm
    obtain ⟨n, rfl⟩ : ∃ n', n = n' + 1 := ⟨n - 1, by omega⟩
    obtain ⟨n', rfl⟩ : ∃ n'', n' = n'' + 1 := ⟨n' - 1, by omega⟩
    obtain rfl : bm = nI b := by
      rcases hm with h | ⟨-, -, h⟩
      · exact h
      · omega
    have kk : nI (2 ^ nT (m 87)) ≤ nI k := by rw [nI_leI (by omega) (by omega)]; omega
    refine ⟨b, hb, ?_, ?_⟩
    · unfold f0_leastToGiveUp_b11
      rw [hn, sh, if_pos kk]
    · unfold f9_least_b20
      rw [g1, sh, if_pos kk, bits_eq, ob]
      by_cases e : w = 0
      · rw [if_pos e, if_pos e]
      · rw [if_neg e, if_neg e]
  | succ d ih =>
    intro n n' k b bm hk hd hd' hb hm
    obtain ⟨n, rfl⟩ : ∃ n', n = n' + 1 := ⟨n - 1, by omega⟩
    obtain ⟨n', rfl⟩ : ∃ n'', n' = n'' + 1 := ⟨n' - 1, by omega⟩
    have kk : ¬ nI (2 ^ nT (m 87)) ≤ nI k := by rw [nI_leI (by omega) (by omega)]; omega
    have k32 : k < 2 ^ 32 := by omega
    have b32 : b < 2 ^ 32 := by omega
    have lk := pcI_le (nI k)
    have lb := pcI_le (nI b)
    have cmp : nI (pcI (nI b)) ≤ nI (pcI (nI k)) ↔ pcI (nI b) ≤ pcI (nI k) := nI_leI (by omega) (by omega)
    have s47 : f9_least_b47 (f9_least_b20 n') w bm (nI k) m = if sumN (prS (m 87) (nI k)) (nT (m 87)) = 0 then f9_least_b20 n' w (nI k) (nI (k + 1)) m else f9_least_b20 n' w bm (nI (k + 1)) m := by
      unfold f9_least_b47 f9_least_b59 f9_least_b60
      rw [but_eq g, ob, nI_1]
      have sl : sumN (prS (m 87) (nI k)) (nT (m 87)) ≤ 6 * nT (m 87) := by
        have : ∀ n, n ≤ 6 → sumN (prS (m 87) (nI k)) n ≤ 6 * n := by
          intro n
          induction n with
          | zero => intro _; simp [sumN]
          | succ n ihn =>
            intro h
            have := ihn (by omega)
            have l : prS (m 87) (nI k) n ≤ n := fb_ct_le _ _
            unfold sumN
            omega
        exact this _ g2
      by_cases e : sumN (prS (m 87) (nI k)) (nT (m 87)) = 0
      · rw [if_pos e, e, if_pos (by decide)]
      · rw [if_neg e, if_neg (nI_ne0 (by omega) (by omega))]
    have unC : f0_leastToGiveUp_b11 1 (n + 1) (nI b) (nI k) c = if pcI (nI b) ≤ pcI (nI k) then f0_leastToGiveUp_b11 1 n (nI b) (nI (k + 1)) c else Option.bind (f0_isPeaceWithout 1 (nI k) c) fun r11 => if r11 = 0 then f0_leastToGiveUp_b11 1 n (nI b) (nI (k + 1)) c else f0_leastToGiveUp_b11 1 n (nI k) (nI (k + 1)) c := by
      conv => lhs; unfold f0_leastToGiveUp_b11
      rw [hn, sh, if_neg kk, bitCount_eq, ob, bitCount_eq, ob, nI_1]
      by_cases e : pcI (nI b) ≤ pcI (nI k)
      · rw [if_pos e, if_pos (cmp.mpr e)]
      · rw [if_neg e, if_neg (by rw [cmp]; exact e)]
    rw [unC]
    rcases hm with rfl | ⟨rfl, rfl, hk2⟩
    · have unM : f9_least_b20 (n' + 1) w (nI b) (nI k) m = if pcI (nI b) ≤ pcI (nI k) then f9_least_b20 n' w (nI b) (nI (k + 1)) m else f9_least_b47 (f9_least_b20 n') w (nI b) (nI k) m := by
        conv => lhs; unfold f9_least_b20 f9_least_b59 f9_least_b60
        rw [g1, sh, if_neg kk, if_neg (nI_pos (by omega)), bits_eq, ob, bits_eq, ob, nI_1]
        by_cases e : pcI (nI b) ≤ pcI (nI k)
        · rw [if_pos e, if_pos (cmp.mpr e)]
        · rw [if_neg e, if_neg (by rw [cmp]; exact e)]
      rw [unM, s47]
      by_cases e : pcI (nI b) ≤ pcI (nI k)
      · rw [if_pos e, if_pos e]
        exact ih n n' (k + 1) b _ (by omega) (by omega) (by omega) hb (Or.inl rfl)
      · rw [if_neg e, if_neg e]
        rcases peace_eq r.1 g (nI k) with ⟨p1, p2⟩ | ⟨p1, p2⟩
        · rw [p2, ob, if_neg i10, if_pos ((Pc_iff _ _).mpr p1)]
          exact ih n n' (k + 1) k _ (by omega) (by omega) (by omega) (by omega) (Or.inl rfl)
        · rw [p2, ob, if_pos rfl, if_neg (by rw [Pc_iff]; exact p1)]
          exact ih n n' (k + 1) b _ (by omega) (by omega) (by omega) hb (Or.inl rfl)
    · have unM : f9_least_b20 (n' + 1) w (-1) (nI k) m = f9_least_b47 (f9_least_b20 n') w (-1) (nI k) m := by
        conv => lhs; unfold f9_least_b20
        rw [g1, sh, if_neg kk, if_pos (by decide)]
      rw [unM, s47]
      rw [show pcI (nI (2 ^ nT (m 87) - 1)) = nT (m 87) from (pcI_nI b32).trans f1]
      by_cases e : nT (m 87) ≤ pcI (nI k)
      · have kF : k = 2 ^ nT (m 87) - 1 := f2 k hk2 (by rw [← pcI_nI k32]; exact e)
        have pF : Pc (m 87) (nI k) := by
          intro i j hi hj bi
          rw [kF, bt_nI (by omega) (by omega), bt_full _ (by omega) i hi] at bi
          exact absurd bi (by decide)
        rw [if_pos e, if_pos ((Pc_iff _ _).mpr pF)]
        exact ih n n' (k + 1) _ _ (by omega) (by omega) (by omega) hb (Or.inl (by rw [kF]))
      · have kF : k + 1 < 2 ^ nT (m 87) := by
          apply Nat.lt_of_not_le
          intro h
          apply e
          have : k = 2 ^ nT (m 87) - 1 := by omega
          rw [this, pcI_nI (by omega), f1]
          exact Nat.le_refl _
        rw [if_neg e]
        rcases peace_eq r.1 g (nI k) with ⟨p1, p2⟩ | ⟨p1, p2⟩
        · rw [p2, ob, if_neg i10, if_pos ((Pc_iff _ _).mpr p1)]
          exact ih n n' (k + 1) k _ (by omega) (by omega) (by omega) (by omega) (Or.inl rfl)
        · rw [p2, ob, if_pos rfl, if_neg (by rw [Pc_iff]; exact p1)]
          exact ih n n' (k + 1) _ _ (by omega) (by omega) (by omega) hb (Or.inr ⟨rfl, rfl, kF⟩)
theorem act_least {c m : JMu} (r : R c m) (x : Int32) : Ans (f8_least x c) (f9_least x m) := by
  have g := r.2.1
  obtain ⟨g1, g2⟩ := g_n g
  have hn : c 1 3 = nI (nT (m 87)) := r.1.2.2.2.1.trans g1
  obtain ⟨t1, t2⟩ := p2le (nT (m 87)) (by omega)
  have sh : (1 : Int32) <<< (nI (nT (m 87)) &&& 31) = nI (2 ^ nT (m 87)) := one_nI (by omega)
  unfold f8_least f9_least
  rw [outside_eq, within_eq, ob, ob]
  by_cases h : x < 0 ∨ 1 < x
  · rw [if_pos h, if_pos h, if_neg i10, if_pos rfl]; exact ans_err1 r
  · obtain ⟨e, e1, e2, e3⟩ := least_loop r x (2 ^ nT (m 87)) jN jN 0 (2 ^ nT (m 87) - 1) (-1) (by omega) (by unfold jN; omega) (by unfold jN; omega) (by omega) (Or.inr ⟨rfl, rfl, by omega⟩)
    have hs : nI (2 ^ nT (m 87)) - 1 = nI (2 ^ nT (m 87) - 1) := pk_sub (b := 1) (by omega)
    unfold f0_leastToGiveUp
    rw [if_neg h, if_neg h, if_pos rfl, if_neg i10, if_pos (hs_obj jH1), hn, sh, hs, show f0_leastToGiveUp_b11 1 jN (nI (2 ^ nT (m 87) - 1)) 0 c = _ from e2, ob, show f9_least_b20 jN x (-1) 0 m = _ from e3, bitCount_eq, ob]
    by_cases q : x = 0
    · rw [if_pos q, if_pos q]; exact ⟨_, _, _, rfl, rfl, r⟩
    · rw [if_neg q, if_neg q]; exact ⟨_, _, _, rfl, rfl, r⟩

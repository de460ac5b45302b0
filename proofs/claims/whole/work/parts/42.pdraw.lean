/-! DEAR, DRAWS -/
theorem b_ne {x : Int32} {i : Nat} (h : bt x i = true) : ¬ x = 0 := by rintro rfl; rw [b_0] at h; exact absurd h (by decide)
theorem hold0 (A : Nat → Int32) {i : Nat} (hi : i < 32) : ∀ k, k ≤ 6 → (sHo A ((1 : Int32) <<< (nI i &&& 31)) k = 0 ↔ bt (sHeld A (-1) k) i = false)
  | 0, _ => by unfold sHo sHeld; rw [b_0]; simp
  | k + 1, hk => by
    have ih := hold0 A hi k (by omega)
    have hb := sHo_bt A ((1 : Int32) <<< (nI i &&& 31)) (i := k) (by omega) (k + 1) (by omega)
    rw [sHeld_s, if_neg (nI_nm1 (by omega)), b_or]
    have key := b_none (A (6 + 5 * k + 2)) i hi
    by_cases e : A (6 + 5 * k + 2) &&& ((1 : Int32) <<< (nI i &&& 31)) = 0
    · rw [key.mp e, Bool.or_false, ← ih]
      conv => lhs; unfold sHo
      rw [show tL A k = A (6 + 5 * k + 2) from rfl, if_pos e]
    · have h1 : bt (A (6 + 5 * k + 2)) i = true := by
        cases q : bt (A (6 + 5 * k + 2)) i
        · exact absurd (key.mpr q) e
        · rfl
      rw [h1, Bool.or_true]
      have h2 : bt (sHo A ((1 : Int32) <<< (nI i &&& 31)) (k + 1)) k = true := by
        rw [hb, show tL A k = A (6 + 5 * k + 2) from rfl]; simp [e]
      constructor
      · intro h; exact absurd h (b_ne h2)
      · intro h; exact absurd h (by decide)
theorem sRent_b (A : Nat → Int32) (k : Nat) : 0 ≤ (sRent A k).toInt ∧ (sRent A k).toInt ≤ 99 := jmm _
theorem dear_loop (v : Int32) : ∀ d n k (c m : JMu) (dz cell : Int32), R c m → k + d = 24 → d < n → -1 ≤ dz.toInt → Ans (f8_dear_b34 n v (sHeld (m 87) (-1) (nT (m 87))) dz cell (nI k) c) (f9_dear_b24 n v cell dz (nI k) m) := by
  intro d
  induction d with
  | zero =>
    intro n k c m dz cell r hk hd hz
    obtain ⟨n, rfl⟩ : ∃ n', n = n' + 1 := ⟨n - 1, by omega⟩
    unfold f8_dear_b34 f9_dear_b24
    have k24 : (24 : Int32) ≤ nI k := by show nI 24 ≤ nI k; rw [nI_leI (by omega) (by omega)]; omega
    by_cases e : 0 ≤ cell
    · rw [if_pos k24, if_pos e, if_pos k24, if_pos e]; exact ⟨_, _, _, rfl, rfl, r⟩
    · rw [if_pos k24, if_neg e, if_pos k24, if_neg e]; exact ans_err2 r
  | succ d ih =>
    intro n k c m dz cell r hk hd hz
    obtain ⟨n, rfl⟩ : ∃ n', n = n' + 1 := ⟨n - 1, by omega⟩
    have g := r.2.1
    obtain ⟨c1, a1, a2, a3⟩ := rentT_eq jH1 r.1 g ((1 : Int32) <<< (nI k &&& 31))
    rw [sRT_one _ k (by omega) 24 (by omega), if_pos (by omega)] at a1
    have h0 := hold0 (m 87) (i := k) (by omega) (nT (m 87)) (g_n g).2
    unfold f8_dear_b34 f9_dear_b24 f9_dear_b50
    rw [if_neg (by show ¬ nI 24 ≤ nI k; rw [nI_leI (by omega) (by omega)]; omega), if_neg (by show ¬ nI 24 ≤ nI k; rw [nI_leI (by omega) (by omega)]; omega), a1, ob, holdersM_eq g (by omega), ob, nI_1]
    dsimp only
    by_cases e : bt (sHeld (m 87) (-1) (nT (m 87))) k = false
    · rw [if_pos ((b_sel0 _ k (by omega)).mpr e), if_pos (show sHold (m 87) _ = 0 from h0.mpr e)]
      obtain ⟨m1, b1, b2, b3⟩ := rentOf_eq g (cell := k) (by omega)
      have r1 : R c1 m1 := R_look r a2 a3 b2 b3
      have rb := sRent_b (m 87) k
      have nx := fun dz cell hz => ih n (k + 1) c1 m1 dz cell r1 (by omega) (by omega) hz
      rw [b2] at nx
      rw [b1, ob]
      dsimp only
      by_cases p1 : v < sRent (m 87) k
      · rw [if_pos p1]
        by_cases p2 : sRent (m 87) k ≤ dz
        · rw [if_pos p2]; exact nx dz cell hz
        · rw [if_neg p2, if_pos p1]; exact nx dz cell hz
      · rw [if_neg p1]
        by_cases p2 : sRent (m 87) k ≤ dz
        · rw [if_pos p2, if_pos p2]; exact nx dz cell hz
        · rw [if_neg p2, if_neg p2, if_neg p1]; exact nx _ _ (by omega)
    · have e2 : ¬ ((sHeld (m 87) (-1) (nT (m 87)) >>> (nI k &&& 31)) &&& 1) = 0 := by rw [b_sel0 _ k (by omega)]; exact e
      rw [if_neg e2, if_neg (by unfold sHold; rw [h0]; exact e), if_pos (by rw [fa_le]; exact hz)]
      have r1 : R c1 m := R_look r a2 a3 rfl (eM_rf m)
      exact ih n (k + 1) c1 m dz cell r1 (by omega) (by omega) hz
theorem act_dear {c m : JMu} (r : R c m) (x : Int32) : Ans (f8_dear x c) (f9_dear x m) := by
  unfold f8_dear f9_dear
  rw [outside_eq, within_eq, ob, ob]
  by_cases h : x < 0 ∨ 99 < x
  · rw [if_pos h, if_pos h, if_neg i10, if_pos rfl]; exact ans_err1 r
  · rw [if_neg h, if_neg h, if_pos rfl, if_neg i10, held_eq jH1 r.1 r.2.1, ob]
    exact dear_loop x 24 jN 0 c m (-1) (-1) r (by omega) (by unfold jN; omega) (by decide)
-- nights, one by one
theorem step_night {c m : JMu} (r : R c m) (h : nN (m 87) + 1 ≤ 9999) : ∃ c' m', f0_passNights 1 1 c = some c' ∧ f9_night m = some m' ∧ R c' m' ∧ nN (m' 87) = nN (m 87) + 1 := by
  obtain ⟨c', a1, a2, a3⟩ := passC_eq jH1 r.1 r.2.1 (N := 1) (by omega) (by omega)
  obtain ⟨m', b1, b2, b3⟩ := nightM_eq r.2.1 (by omega)
  obtain ⟨q1, q2, q3⟩ := GA_sNight r.2.1 (by omega)
  refine ⟨c', m', a1, b1, R_now r (by rw [b2]; exact a2) (by rw [b2]; exact q1) (by rw [b2, q3]; exact h) a3 b3, by rw [b2, q3]⟩
theorem ush8 (z : Int32) : ∃ j, j < 2 ^ 24 ∧ jushr z 8 = nI j := by
  obtain ⟨n, hn, rfl⟩ := wb_of32 z
  exact ⟨n / 2 ^ 8, by omega, ush_nI hn 8 8 (by decide)⟩
theorem nx_or (a b : Nat) : nI a ||| nI b = nI (a ||| b) := by
  apply b_ext
  intro i hi
  rw [b_or]
  unfold bt nI
  simp [Int32.toBitVec_ofNat, BitVec.getLsbD_ofNat, hi, Nat.testBit_or]
theorem one_nI {c : Nat} (hc : c < 31) : (1 : Int32) <<< (nI c &&& 31) = nI (2 ^ c) := by
  have := pk_shlN (n := 1) (nI c &&& 31) c (s_l c (by omega)) (by rw [Nat.one_mul]; exact Nat.pow_lt_pow_right (by omega) (by omega))
  rw [Nat.one_mul] at this
  exact this
theorem orcell {x : Nat} (hx : x < 2 ^ 24) {c : Nat} (hc : c < 24) : ∃ y, y < 2 ^ 24 ∧ nI x ||| ((1 : Int32) <<< (nI c &&& 31)) = nI y := by
  refine ⟨x ||| 2 ^ c, Nat.or_lt_two_pow hx (Nat.pow_lt_pow_right (by omega) hc), ?_⟩
  rw [one_nI (by omega), nx_or]
theorem R_hd {c m : JMu} (r : R c m) {k a : Nat} {v : Int32} (hk : (k = 1 ∧ a = 2 ∧ ∃ n, n ≤ 9 ∧ v = nI n) ∨ (k = 2 ∧ a = 5)) : R (jup c 1 k v) (jup m 87 a v) := by
  have hk' : (k = 0 ∧ a = 0) ∨ (k = 1 ∧ a = 2) ∨ (k = 2 ∧ a = 5) := by
    rcases hk with ⟨h1, h2, -⟩ | h
    · exact Or.inr (Or.inl ⟨h1, h2⟩)
    · exact Or.inr (Or.inr h)
  refine R_now r (by rw [jup_rs]; exact HC_hd r.1 r.2.1 v hk') (by
    rw [jup_rs]
    rcases hk with ⟨-, h2, h3⟩ | ⟨-, h⟩
    · exact GA_hd r.2.1 (Or.inr (Or.inl ⟨h2, h3⟩))
    · exact GA_hd r.2.1 (Or.inr (Or.inr h))) ?_ (eH_up _ _ _ (by omega) (by omega)) (eM_up _ _ _)
  rw [jup_rs, nN_up _ _ (by omega)]; exact r.2.2.1
theorem nT_hd (m : JMu) {a : Nat} (v : Int32) (h : a ≠ 1) : nT ((jup m 87 a v) 87) = nT (m 87) := by rw [jup_rs, nT_up _ _ h]
theorem nN_hd (m : JMu) {a : Nat} (v : Int32) (h : a ≠ 0) : nN ((jup m 87 a v) 87) = nN (m 87) := by rw [jup_rs, nN_up _ _ h]
theorem draw_c {c m : JMu} (r : R c m) : ∃ v, f0_draw 1 c = some (v, jup c 1 2 (c 1 2 * 1103515245 + 12345)) ∧ f9_drawn m = some (v, jup m 87 5 (c 1 2 * 1103515245 + 12345)) ∧ (∃ j, j < 2 ^ 24 ∧ v = nI j) ∧ R (jup c 1 2 (c 1 2 * 1103515245 + 12345)) (jup m 87 5 (c 1 2 * 1103515245 + 12345)) := by
  obtain ⟨j, j1, j2⟩ := ush8 (c 1 2 * 1103515245 + 12345)
  refine ⟨jushr (c 1 2 * 1103515245 + 12345) 8, ?_, ?_, ⟨j, j1, j2⟩, R_hd r (Or.inr ⟨rfl, rfl⟩)⟩
  · unfold f0_draw
    rw [if_pos (hs_obj jH1), jup_self]
  · unfold f9_drawn
    rw [show m 87 5 = c 1 2 from r.1.2.2.1.symm, jup_self]
theorem loose_loop (N : Nat) (hN : N ≤ 40) : ∀ d n k (c m : JMu), R c m → k + d = N → nN (m 87) + d ≤ 9999 → d < n → Ans (f8_loose_b41 n (nI N) (nI k) c) (f9_loose_b40 n (nI N) (nI k) m) := by
  intro d
  induction d with
  | zero =>
    intro n k c m r hk hb hd
    obtain ⟨n, rfl⟩ : ∃ n', n = n' + 1 := ⟨n - 1, by omega⟩
    unfold f8_loose_b41 f9_loose_b40
    rw [if_pos (by rw [nI_leI (by omega) (by omega)]; omega), if_pos (by rw [nI_leI (by omega) (by omega)]; omega), outC_eq jH1 r.1 r.2.1, outM_eq r.2.1]
    exact ⟨_, _, _, rfl, rfl, r⟩
  | succ d ih =>
    intro n k c m r hk hb hd
    obtain ⟨n, rfl⟩ : ∃ n', n = n' + 1 := ⟨n - 1, by omega⟩
    have fin : ∀ c1 m1, R c1 m1 → nN (m1 87) = nN (m 87) → Ans (Option.bind (f0_passNights 1 1 c1) fun r13 => f8_loose_b41 n (nI N) (nI (k + 1)) r13) (f9_loose_b71 (f9_loose_b40 n) (nI N) (nI k) m1) := by
      intro c1 m1 r1 h1
      obtain ⟨c2, m2, a1, a2, a3, a4⟩ := step_night r1 (by omega)
      unfold f9_loose_b71
      rw [a1, a2, ob, ob, nI_1]
      exact ih n (k + 1) c2 m2 a3 (by omega) (by omega) (by omega)
    unfold f8_loose_b41 f9_loose_b40
    rw [if_neg (by rw [nI_leI (by omega) (by omega)]; omega), if_neg (by rw [nI_leI (by omega) (by omega)]; omega), nI_1]
    obtain ⟨v, d1, d2, ⟨j, j1, j2⟩, r1⟩ := draw_c r
    rw [d2, ob]
    unfold f0_drawNight
    rw [if_pos (hs_obj jH1), d1, ob]
    dsimp only
    have r2 : R (jup (jup c 1 2 (c 1 2 * 1103515245 + 12345)) 1 1 (jrem v 10)) (jup (jup m 87 5 (c 1 2 * 1103515245 + 12345)) 87 2 (jrem v 10)) := R_hd r1 (Or.inl ⟨rfl, rfl, j % 10, by omega, by rw [j2]; exact rem_nI (by omega) (d := 10) (by omega) (by omega)⟩)
    have hN2 : nN ((jup (jup m 87 5 (c 1 2 * 1103515245 + 12345)) 87 2 (jrem v 10)) 87) = nN (m 87) := by rw [nN_hd _ _ (by omega), nN_hd _ _ (by omega)]
    generalize jup (jup c 1 2 (c 1 2 * 1103515245 + 12345)) 1 1 (jrem v 10) = c2 at *
    generalize jup (jup m 87 5 (c 1 2 * 1103515245 + 12345)) 87 2 (jrem v 10) = m2 at *
    obtain ⟨g1, g2⟩ := g_n r2.2.1
    have e3 : c2 1 3 = nI (nT (m2 87)) := r2.1.2.2.2.1.trans g1
    rw [e3, g1]
    by_cases e : nT (m2 87) = 0
    · rw [if_neg (by show ¬ nI 1 ≤ _; rw [nI_leI (by omega) (by omega)]; omega), if_pos (by show _ ≤ nI 0; rw [nI_leI (by omega) (by omega)]; omega), ob]
      exact fin c2 m2 r2 hN2
    · rw [if_pos (by show nI 1 ≤ _; rw [nI_leI (by omega) (by omega)]; omega), if_neg (by show ¬ _ ≤ nI 0; rw [nI_leI (by omega) (by omega)]; omega)]
      obtain ⟨v3, d3, d4, ⟨j3, j31, j32⟩, r3⟩ := draw_c r2
      have e33 : (jup c2 1 2 (c2 1 2 * 1103515245 + 12345)) 1 3 = nI (nT (m2 87)) := by rw [jup_col (by omega)]; exact e3
      have e34 : (jup m2 87 5 (c2 1 2 * 1103515245 + 12345)) 87 1 = nI (nT (m2 87)) := by rw [jup_col (by omega)]; exact g1
      have hN3 : nN ((jup m2 87 5 (c2 1 2 * 1103515245 + 12345)) 87) = nN (m 87) := by rw [nN_hd _ _ (by omega)]; exact hN2
      have hT3 : nT ((jup m2 87 5 (c2 1 2 * 1103515245 + 12345)) 87) = nT (m2 87) := nT_hd _ _ (by omega)
      unfold f9_takesByDraws
      rw [d3, d4, ob, ob]
      dsimp only
      have nz : ¬ nI (nT (m2 87)) = 0 := nI_ne0 (by omega) (by omega)
      rw [if_pos (by rw [e33]; exact nz), if_pos (by rw [e34]; exact nz), e33, e34]
      generalize jup c2 1 2 (c2 1 2 * 1103515245 + 12345) = c3 at *
      generalize jup m2 87 5 (c2 1 2 * 1103515245 + 12345) = m3 at *
      obtain ⟨v5, d5, d6, ⟨j5, j51, j52⟩, r5⟩ := draw_c r3
      have hN5 : nN ((jup m3 87 5 (c3 1 2 * 1103515245 + 12345)) 87) = nN (m 87) := by rw [nN_hd _ _ (by omega)]; exact hN3
      have hT5 : nT ((jup m3 87 5 (c3 1 2 * 1103515245 + 12345)) 87) = nT (m2 87) := (nT_hd _ _ (by omega)).trans hT3
      rw [d5, d6, ob, ob]
      dsimp only
      generalize jup c3 1 2 (c3 1 2 * 1103515245 + 12345) = c5 at *
      generalize jup m3 87 5 (c3 1 2 * 1103515245 + 12345) = m5 at *
      have ht : j3 % nT (m2 87) < nT (m2 87) := Nat.mod_lt _ (by omega)
      rw [j32, rem_nI (by omega) (by omega) (by omega), j52, show jrem (nI j5) 24 = nI (j5 % 24) from rem_nI (by omega) (d := 24) (by omega) (by omega)]
      generalize j3 % nT (m2 87) = t at *
      have ht5 : t < nT (m5 87) := by omega
      rw [find_in jH1 (r5.1.2.2.2.1.trans ((g_n r5.2.1).1.trans (by rw [hT5]))) g2 ht, ob, at2, ob, if_pos (jin_nI (by omega) (by omega)), isOut_eq r5.2.1 ht5, ob, nI_clamp (by omega)]
      dsimp only
      have c4 := r5.1.2.2.2.2.1 t 4 ht5 (by omega)
      rw [if_pos (tn1 (by omega)), r5.1.2.2.2.2.1 t 2 ht5 (by omega)]
      unfold f9_takesByDraws_b46
      rw [if_pos (jin_nI (by omega) (by omega)), if_pos (jin_nI (by omega) (by omega)), nI_clamp (by omega)]
      by_cases q : m5 87 (6 + 5 * t + 4) = 0
      · obtain ⟨x, x1, x2⟩ := g_l r5.2.1 ht5
        obtain ⟨y, y1, y2⟩ := orcell x1 (c := j5 % 24) (by omega)
        rw [if_pos (by rw [c4]; exact q), if_pos q, ob, ob, x2, y2]
        exact fin _ _ (R_ten (f := 2) r5 ht5 (Or.inr (Or.inr (Or.inl ⟨rfl, y, y1, rfl⟩)))) (by rw [nN_hd _ _ (by omega)]; exact hN5)
      · rw [if_neg (by rw [c4]; exact q), if_neg q, ob, ob, show ∀ x : Int32, x ||| 0 = x from fun x => by apply b_ext; intro i _; rw [b_or, b_0]; simp]
        have same : jup m5 87 (6 + 5 * t + 2) (m5 87 (6 + 5 * t + 2)) = m5 := by
          funext p k'
          unfold jup
          split
          · rename_i h; rw [h.1, h.2]
          · rfl
        rw [same]
        exact fin _ _ r5 hN5
theorem act_loose {c m : JMu} (r : R c m) (x : Int32) : Ans (f8_loose x c) (f9_loose x m) := by
  unfold f8_loose f9_loose
  rw [outside_eq, within_eq, ob, ob, r.1.1, (g_0 r.2.1).1]
  rcases rng x 1 40 (by omega) (by omega) with h | ⟨h, q, h3, h4, rfl⟩
  · have h : x < 1 ∨ 40 < x := h
    rw [if_pos h, if_pos h, if_neg i10, if_pos rfl]; exact ans_err1 r
  · have h : ¬ (nI q < 1 ∨ 40 < nI q) := h
    have n9 := r.2.2.1
    rw [if_neg h, if_neg h, if_pos rfl, if_neg i10, nI_add]
    by_cases e : nI (nN (m 87) + q) ≤ 9999
    · have e' : nN (m 87) + q ≤ 9999 := by
        have : nI (nN (m 87) + q) ≤ nI 9999 := e
        rw [nI_leI (by omega) (by omega)] at this; exact this
      rw [if_pos e, if_pos e]
      exact loose_loop q h4 q jN 0 c m r (by omega) e' (by unfold jN; omega)
    · rw [if_neg e, if_neg e]; exact ans_err3 r

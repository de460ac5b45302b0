theorem R_tx {c m c' m' : JMu} (r : R c m) (hc : HC c' 1 (m' 87)) (g : GA (m' 87)) (n : nN (m' 87) ≤ 9999) (e : ∀ q, ¬ (1 ≤ q ∧ q < 21) → ¬ (61 ≤ q ∧ q < 66) → c' q = c q) (em : ∀ q, q ≠ 86 → q ≠ 87 → q ≠ 92 → m' q = m q) (m3 : m' 86 3 = m 86 3) (m18 : m' 86 18 = m 86 18) : R c' m' := by
  obtain ⟨-, -, -, r4, r5⟩ := r
  refine ⟨hc, g, n, by rw [e 53 (by omega) (by omega), e 57 (by omega) (by omega)]; exact r4, RX_fr r5 ?_ ?_ ?_ m3 m18 ?_⟩
  · rw [e 0 (by omega) (by omega)]
  · intro q h1 h2; exact e q (by omega) (by omega)
  · intro q h; exact e q (by omega) (by omega)
  · intro q h; exact em q (by omega) (by omega) (by omega)
theorem b117_loop {a u len : Nat} (hu : u ≤ 1) (ha : a = 106 + 52 * u) (hl : len ≤ 50) (m0 : JMu) (h8 : m0 86 8 = nI u) (h11 : m0 86 11 = nI len) : ∀ d n k (m : JMu), k + d = len → d < n → (∀ q, q ≠ 87 → m q = m0 q) → (∀ j, m 87 j = if a + 1 ≤ j ∧ j < a + 1 + k then m0 92 (j - (a + 1)) else m0 87 j) →
    ∃ m', f9_text_b117 n (nI k) m = some (1, m') ∧ (∀ q, q ≠ 87 → m' q = m0 q) ∧ (∀ j, m' 87 j = if a + 1 ≤ j ∧ j < a + 1 + len then m0 92 (j - (a + 1)) else m0 87 j) := by
  intro d
  induction d with
  | zero =>
    intro n k m hk hd h1 h2
    obtain ⟨n, rfl⟩ : ∃ n', n = n' + 1 := ⟨n - 1, by omega⟩
    obtain rfl : k = len := by omega
    refine ⟨m, ?_, h1, h2⟩
    unfold f9_text_b117
    rw [h1 86 (by omega), h11, if_pos (by rw [nI_leI (by omega) (by omega)]; omega)]
  | succ d ih =>
    intro n k m hk hd h1 h2
    obtain ⟨n, rfl⟩ : ∃ n', n = n' + 1 := ⟨n - 1, by omega⟩
    have ix : (106 : Int32) + 52 * nI u + 1 + nI k = nI (a + 1 + k) := by
      rw [show (106 : Int32) = nI 106 from rfl, show (52 : Int32) = nI 52 from rfl, pk_mul, nI_add, nI_1, nI_add, ha]
    unfold f9_text_b117
    rw [h1 86 (by omega), h11, if_neg (by rw [nI_leI (by omega) (by omega)]; omega), if_pos (jin_nI (by omega) (by omega)), h8, ix, if_pos (jin_nI (by omega) (by omega)), nI_clamp (by omega), nI_clamp (by omega), nI_1]
    refine ih n (k + 1) _ (by omega) (by omega) (fun q hq => by rw [jup_row hq]; exact h1 q hq) (fun j => ?_)
    by_cases e : j = a + 1 + k
    · subst e; rw [jup_self, if_pos (by omega), h1 92 (by omega), show a + 1 + k - (a + 1) = k by omega]
    · rw [jup_col e, h2 j]
      by_cases e2 : a + 1 ≤ j ∧ j < a + 1 + k
      · rw [if_pos e2, if_pos (by omega)]
      · rw [if_neg e2, if_neg (by omega)]
theorem act_text {c m : JMu} (r : R c m) (x : Int32) : Ans (f8_text x c) (f9_text x m) := by
  unfold f8_text f9_text
  rw [isNoUse_eq, within_eq, ob, ob]
  rcases rng x 0 1 (by omega) (by omega) with h | ⟨h, u, -, hu, rfl⟩
  · have h : x < 0 ∨ 1 < x := h
    rw [if_pos h, if_pos h, if_neg i10, if_pos rfl]; exact ans_err1 r
  have h : ¬ (nI u < 0 ∨ 1 < nI u) := h
  rw [if_neg h, if_neg h, if_pos rfl, if_neg i10]
  have g := r.2.1
  obtain ⟨b1, b2⟩ := g_b g
  have tape9 : jRow 9 50 := hs_tape jH1
  have c9 : c 9 1 = nI (nB (m 87)) := (show c 9 1 = m 87 3 from r.1.2.2.2.2.2.1).trans b1
  have c10 : ∀ i, i < nB (m 87) → c 10 i = m 87 (36 + i) := r.1.2.2.2.2.2.2.1
  obtain ⟨c1, a1, a2, a3, a4, a5⟩ := row_copy (c := c) tape9 rs_62 (by omega) (by omega) (by omega) (by omega) (by omega) c9 b2 b2
  -- the bases
  have TPB : TP (jup (jup (jup c1 64 1 0) 61 2 (nI u)) 61 3 0) (jup (jup (jup (jup (jup m 86 8 (nI u)) 86 6 0) 86 7 0) 86 9 0) 86 11 0) (fun i => m 87 (36 + i)) (nB (m 87)) u := by
    refine ⟨b2, hu, ?_, ?_, ?_, ?_, ?_, ?_⟩
    · rw [jup_row (by omega), jup_row (by omega), jup_row (by omega)]; exact a2
    · intro i hi
      rw [jup_row (by omega), jup_row (by omega), jup_row (by omega)]; exact (a3 i hi).trans (c10 i hi)
    · rw [jup_col (by omega), jup_self]
    · rw [jup_row (by omega), jup_row (by omega), jup_row (by omega), jup_row (by omega), jup_row (by omega)]; exact b1
    · intro i hi
      rw [jup_row (by omega), jup_row (by omega), jup_row (by omega), jup_row (by omega), jup_row (by omega)]
    · rw [jup_col (by omega), jup_col (by omega), jup_col (by omega), jup_col (by omega), jup_self]
  have PC0 : PC (jup (jup (jup c1 64 1 0) 61 2 (nI u)) 61 3 0) (jup (jup (jup c1 64 1 0) 61 2 (nI u)) 61 3 0) 0 [] := by
    refine ⟨⟨fun _ _ _ _ => rfl, fun _ _ => rfl⟩, jup_self _ _ _ _, ?_, by simp, fun k hk => absurd hk (by simp)⟩
    rw [jup_row (by omega), jup_row (by omega), jup_self]; rfl
  have PM0 : PM (jup (jup (jup (jup (jup m 86 8 (nI u)) 86 6 0) 86 7 0) 86 9 0) 86 11 0) (jup (jup (jup (jup (jup m 86 8 (nI u)) 86 6 0) 86 7 0) 86 9 0) 86 11 0) 0 0 [] := by
    refine ⟨⟨fun _ _ _ => rfl, fun _ _ _ _ _ => rfl⟩, ?_, ?_, ?_, ?_, fun k hk => absurd hk (by simp)⟩
    · rw [jup_col (by omega), jup_col (by omega), jup_col (by omega), jup_self]; rfl
    · rw [jup_col (by omega), jup_col (by omega), jup_self]; rfl
    · rw [jup_col (by omega), jup_self]
    · rw [jup_self]; rfl
  have fC : ∀ q, ¬ (61 ≤ q ∧ q < 66) → (jup (jup (jup c1 64 1 0) 61 2 (nI u)) 61 3 0) q = c q := by
    intro q hq
    rw [jup_row (by omega), jup_row (by omega), jup_row (by omega)]; exact a4 q (by omega) (by omega)
  have fM : ∀ q, q ≠ 86 → (jup (jup (jup (jup (jup m 86 8 (nI u)) 86 6 0) 86 7 0) 86 9 0) 86 11 0) q = m q := by
    intro q hq
    rw [jup_row hq, jup_row hq, jup_row hq, jup_row hq, jup_row hq]
  have fM3 : ∀ j, j = 3 ∨ j = 18 → (jup (jup (jup (jup (jup m 86 8 (nI u)) 86 6 0) 86 7 0) 86 9 0) 86 11 0) 86 j = m 86 j := by
    intro j hj
    rw [jup_col (by omega), jup_col (by omega), jup_col (by omega), jup_col (by omega), jup_col (by omega)]
  have rd := (rd_all TPB 5 0 rfl).2 jK jK (by decide) (by decide) _ _ 0 [] PC0 PM0 (by simp) (by omega)
  unfold f2_read f3_empty
  rw [if_pos tape9.1, a1, ob, if_pos rs_64.1, ob]
  unfold f2_readLevel f9_either
  generalize jup (jup (jup c1 64 1 0) 61 2 (nI u)) 61 3 0 = C0 at *
  generalize jup (jup (jup (jup (jup m 86 8 (nI u)) 86 6 0) 86 7 0) 86 9 0) 86 11 0 = M0 at *
  -- what comes of a fault
  have fault : ∀ (c' m' : JMu) (p : Nat), FC C0 c' → FM M0 m' → p ≤ 50 → m' 86 6 = nI p → Ans (some (-10 - nI p, jup c' 9 1 0)) (f9_text_b66 m') := by
    intro c' m' p q1 q2 q3 q4
    have hc' : HC c' 1 (m 87) := HC_far r.1 g (fun q w1 w2 => by rw [q1.1 q (by omega) (by omega) (by omega), fC q (by omega)])
    obtain ⟨e1, e2⟩ := HC_emptyB hc' g
    have m87 : m' 87 = m 87 := by rw [q2.1 87 (by omega) (by omega), fM 87 (by omega)]
    have e3 : (jup (jup m' 86 9 1) 87 3 0) 87 = up1 (m 87) 3 0 := by rw [jup_rs, jup_row (by omega), m87]
    unfold f9_text_b66 f9_text_b71
    rw [if_pos (Or.inr rfl), if_neg (by rw [jup_row (by omega), jup_self]; decide), jup_row (q := 86) (by omega), jup_col (by omega), q4]
    refine ⟨_, _, _, rfl, rfl, R_tx r (by rw [e3]; exact e1) (by rw [e3]; exact e2) (by rw [e3, nN_up _ _ (by omega)]; exact r.2.2.1) ?_ ?_ ?_ ?_⟩
    · intro q w1 w2
      rw [jup_row (by omega), q1.1 q (by omega) (by omega) (by omega), fC q w2]
    · intro q w1 w2 w3
      rw [jup_row w2, jup_row w1, q2.1 q w1 w3, fM q w1]
    · rw [jup_row (by omega), jup_col (by omega), q2.2 3 (by omega) (by omega) (by omega) (by omega), fM3 3 (by omega)]
    · rw [jup_row (by omega), jup_col (by omega), q2.2 18 (by omega) (by omega) (by omega) (by omega), fM3 18 (by omega)]
  have r9 : jO cPl 9 3 = true := tape9.1
  rcases rd with ⟨c', m', p', L', q1, q2, q3, q4, q5, q6, q7, q8⟩ | ⟨c', m', p', q1, q2, q3, q4, q5⟩
  · have c62 : c' 62 1 = nI (nB (m 87)) := by rw [q3.1.1 62 (by omega) (by omega) (by omega)]; exact TPB.2.2.1
    have m87 : m' 87 = m 87 := by rw [q4.1.1 87 (by omega) (by omega), fM 87 (by omega)]
    rw [show (gf2_readLevel jK).1 0 0 C0 = _ from q1, ob, q2, ob]
    dsimp only
    rw [if_neg i10, if_pos (show m' 86 9 = 0 from q4.2.2.2.1)]
    by_cases e : p' < nB (m 87)
    · rw [if_pos (show c' 61 3 < c' 62 1 by rw [q3.2.1, c62, ltI (by omega) (by omega)]; exact e), if_neg (show ¬ m' 87 3 ≤ m' 86 6 by rw [m87, b1, q4.2.1, nI_leI (by omega) (by omega)]; omega), q3.2.1, ob]
      dsimp only
      rw [if_pos r9, ob, if_neg (nI_pos (by omega))]
      exact fault c' m' p' q3.1 q4.1 (by omega) q4.2.1
    · rw [if_neg (show ¬ c' 61 3 < c' 62 1 by rw [q3.2.1, c62, ltI (by omega) (by omega)]; exact e), if_pos (show m' 87 3 ≤ m' 86 6 by rw [m87, b1, q4.2.1, nI_leI (by omega) (by omega)]; omega), ob]
      dsimp only
      rw [if_pos r9, ob, if_pos (by decide)]
      have hc' : HC c' 1 (m 87) := HC_far r.1 g (fun q w1 w2 => by rw [q3.1.1 q (by omega) (by omega) (by omega), fC q (by omega)])
      obtain ⟨e1, e2⟩ := HC_emptyB hc' g
      have ln : L'.length ≤ 50 := by omega
      have c64 : (jup c' 9 1 0) 64 1 = nI L'.length := by rw [jup_row (by omega)]; exact q3.2.2.1
      have c65 : ∀ k, k < L'.length → (jup c' 9 1 0) 65 k = tokI (L'.getD k 0) := by
        intro k hk
        rw [jup_row (by omega)]; exact q3.2.2.2.2 k hk
      -- the check's side
      have M8 : (jup (jup (jup m' 86 9 0) 87 3 0) 87 (106 + 52 * u) (nI L'.length)) 86 8 = nI u := by
        rw [jup_row (by omega), jup_row (by omega), jup_col (by omega), q4.1.2 8 (by omega) (by omega) (by omega) (by omega)]; exact TPB.2.2.2.2.2.2.2
      have M11 : (jup (jup (jup m' 86 9 0) 87 3 0) 87 (106 + 52 * u) (nI L'.length)) 86 11 = nI L'.length := by
        rw [jup_row (by omega), jup_row (by omega), jup_col (by omega)]; exact q4.2.2.2.2.1
      obtain ⟨m2, d1, d2, d3⟩ := b117_loop (a := 106 + 52 * u) hu rfl ln _ M8 M11 L'.length jN 0 _ (by omega) (by unfold jN; omega) (fun _ _ => rfl) (fun j => by rw [if_neg (by omega)])
      have hM : f9_text_b71 0 m' = some (1, m2) := by
        unfold f9_text_b71
        have ee : (jup (jup m' 86 9 0) 87 3 0) 86 9 = 0 := by rw [jup_row (by omega), jup_self]
        have e8 : (jup (jup m' 86 9 0) 87 3 0) 86 8 = nI u := by rw [jup_row (by omega), jup_col (by omega), q4.1.2 8 (by omega) (by omega) (by omega) (by omega)]; exact TPB.2.2.2.2.2.2.2
        have e11 : (jup (jup m' 86 9 0) 87 3 0) 86 11 = nI L'.length := by rw [jup_row (by omega), jup_col (by omega)]; exact q4.2.2.2.2.1
        have ix : (106 : Int32) + 52 * nI u = nI (106 + 52 * u) := by
          rw [show (106 : Int32) = nI 106 from rfl, show (52 : Int32) = nI 52 from rfl, pk_mul, nI_add]
        rw [if_pos (Or.inl rfl), if_pos ee, e8, e11, ix, if_pos (jin_nI (by omega) (by omega)), nI_clamp (by omega)]
        exact d1
      rw [hM]
      -- the new row
      have A2 : ∀ j, j ≠ 3 → j ≠ 106 + 52 * u → ¬ (106 + 52 * u + 1 ≤ j ∧ j < 106 + 52 * u + 1 + L'.length) → m2 87 j = m 87 j := by
        intro j w1 w2 w3
        rw [d3, if_neg w3, jup_col w2, jup_col w1, jup_row (by omega), m87]
      have A3 : m2 87 3 = 0 := by rw [d3, if_neg (by omega), jup_col (by omega), jup_self]
      have AL : m2 87 (106 + 52 * u) = nI L'.length := by rw [d3, if_neg (by omega), jup_self]
      have AK : ∀ k, k < L'.length → m2 87 (106 + 52 * u + 1 + k) = nI (L'.getD k 0) ∧ L'.getD k 0 < 20011 := by
        intro k hk
        rw [d3, if_pos (by omega), jup_row (by omega), jup_row (by omega), jup_row (by omega), show 106 + 52 * u + 1 + k - (106 + 52 * u + 1) = k by omega]
        exact q4.2.2.2.2.2 k hk
      have TX : TXA (m2 87) (106 + 52 * u) L' := ⟨AL, ln, AK, Or.inr (q8 0)⟩
      have uu : u = 0 ∨ u = 1 := by omega
      have X0 : TXA (m 87) 106 (cdL (m 87) 106) := g_x0 g
      have X1 : TXA (m 87) 158 (cdL (m 87) 158) := g_x1 g
      have T0 : TXA (m2 87) 106 (if u = 0 then L' else cdL (m 87) 106) := by
        rcases uu with rfl | rfl
        · exact TX
        · rw [if_neg (by omega)]; exact TXA_cong X0 (fun j w1 w2 => A2 j (by omega) (by omega) (by omega))
      have T1 : TXA (m2 87) 158 (if u = 1 then L' else cdL (m 87) 158) := by
        rcases uu with rfl | rfl
        · rw [if_neg (by omega)]; exact TXA_cong X1 (fun j w1 w2 => A2 j (by omega) (by omega) (by omega))
        · exact TX
      have nT2 : nT (m2 87) = nT (m 87) := by unfold nT; rw [A2 1 (by omega) (by omega) (by omega)]
      have nW2 : nW (m2 87) = nW (m 87) := by unfold nW; rw [A2 4 (by omega) (by omega) (by omega)]
      have nB2 : nB (m2 87) = 0 := by unfold nB; rw [A3]; rfl
      have nN2 : nN (m2 87) = nN (m 87) := by unfold nN; rw [A2 0 (by omega) (by omega) (by omega)]
      have g2 := (g_n g).2
      have gw := (g_w g).2
      have GA2 : GA (m2 87) := by
        obtain ⟨h1, h2, h3, h4, h5, h6, h7, h8⟩ := g
        refine ⟨by rw [A2 1 (by omega) (by omega) (by omega)]; exact h1, ⟨0, by omega, A3⟩, by rw [A2 4 (by omega) (by omega) (by omega)]; exact h3, by rw [A2 0 (by omega) (by omega) (by omega)]; exact h4, ⟨_, T0⟩, ⟨_, T1⟩, ?_, by rw [A2 2 (by omega) (by omega) (by omega)]; exact h8⟩
        rw [nT2]
        intro t ht
        rw [A2 _ (by omega) (by omega) (by omega), A2 _ (by omega) (by omega) (by omega), A2 _ (by omega) (by omega) (by omega), A2 _ (by omega) (by omega) (by omega), A2 _ (by omega) (by omega) (by omega)]
        exact h7 t ht
      -- the class's side
      have lawP : ∃ p, (p = 13 ∨ p = 17) ∧ (p = 13 ↔ u = 0) ∧ f0_lawOf 1 (nI u) (jup c' 9 1 0) = some p ∧ jLaw p := by
        unfold f0_lawOf
        rw [if_pos (hs_obj jH1), (hs_rf jH1).2.2.2.1, (hs_rf jH1).2.2.2.2]
        rcases uu with rfl | rfl
        · exact ⟨13, Or.inl rfl, by decide, rfl, hs_law0 jH1⟩
        · exact ⟨17, Or.inr rfl, by decide, rfl, hs_law1 jH1⟩
      obtain ⟨p, p1, p2, p3, l1, l2, l3, l4, l5, l6⟩ := lawP
      obtain ⟨c3, s1, s2, s3, s4, s5⟩ := row_copy (c := jup c' 9 1 0) rs_64 l6 (by omega) (by omega) (by omega) (by omega) (by omega) c64 ln ln
      have cp : f1_copyFrom p 64 (jup c' 9 1 0) = some c3 := by
        unfold f1_copyFrom
        rw [if_pos l1, if_pos rs_64.1, l2, if_pos l6.1, s1, ob]
      rw [p3, ob, if_pos l1, cp, ob]
      have cr : ∀ q, q ≠ p + 1 → q ≠ p + 2 → c3 q = jup c' 9 1 0 q := fun q w1 w2 => s4 q w1 w2
      have HC2 : HC c3 1 (m2 87) := by
        obtain ⟨k1, k2, k3, k4, k5, k6, k7, k8, k9, k10, k11, k12, k13⟩ := e1
        rw [nT_up _ _ (by omega)] at k5
        rw [nW_up _ _ (by omega)] at k9
        rw [cdL_up _ (by omega)] at k11 k13
        have up : ∀ j, j ≠ 3 → up1 (m 87) 3 0 j = m 87 j := fun j hj => up1_ne _ _ hj
        unfold HC
        rw [nT2, nW2, nB2, cdL_of T0, cdL_of T1]
        refine ⟨?_, ?_, ?_, ?_, ?_, ?_, ?_, ?_, ?_, ?_, ?_, ?_, ?_⟩
        · rw [cr _ (by omega) (by omega), A2 _ (by omega) (by omega) (by omega), ← up 0 (by omega)]; exact k1
        · rw [cr _ (by omega) (by omega), A2 _ (by omega) (by omega) (by omega), ← up 2 (by omega)]; exact k2
        · rw [cr _ (by omega) (by omega), A2 _ (by omega) (by omega) (by omega), ← up 5 (by omega)]; exact k3
        · rw [cr _ (by omega) (by omega), A2 _ (by omega) (by omega) (by omega), ← up 1 (by omega)]; exact k4
        · intro t f ht hf
          rw [cr _ (by omega) (by omega), A2 _ (by omega) (by omega) (by omega), ← up _ (by omega)]; exact k5 t f ht hf
        · rw [cr _ (by omega) (by omega), A3, k6, up1_self]
        · intro i hi; omega
        · rw [cr _ (by omega) (by omega), A2 _ (by omega) (by omega) (by omega), ← up 4 (by omega)]; exact k8
        · intro i hi
          rw [cr _ (by omega) (by omega), A2 _ (by omega) (by omega) (by omega), ← up _ (by omega)]; exact k9 i hi
        · rw [cr _ (by omega) (by omega)]; exact k10
        · by_cases u0 : u = 0
          · obtain rfl : p = 13 := p2.mpr u0
            rw [if_pos u0]
            exact ⟨s2, fun k hk => (s3 k hk).trans (c65 k hk)⟩
          · obtain rfl : p = 17 := by
              rcases p1 with h | h
              · exact absurd (p2.mp h) u0
              · exact h
            rw [if_neg u0]
            exact ⟨by rw [cr _ (by omega) (by omega)]; exact k11.1, fun k hk => by rw [cr _ (by omega) (by omega)]; exact k11.2 k hk⟩
        · rw [cr _ (by omega) (by omega)]; exact k12
        · by_cases u0 : u = 0
          · obtain rfl : p = 13 := p2.mpr u0
            rw [if_neg (by omega)]
            exact ⟨by rw [cr _ (by omega) (by omega)]; exact k13.1, fun k hk => by rw [cr _ (by omega) (by omega)]; exact k13.2 k hk⟩
          · obtain rfl : p = 17 := by
              rcases p1 with h | h
              · exact absurd (p2.mp h) u0
              · exact h
            rw [if_pos (by omega)]
            exact ⟨s2, fun k hk => (s3 k hk).trans (c65 k hk)⟩
      refine ⟨_, _, _, rfl, rfl, R_tx r HC2 GA2 (by rw [nN2]; exact r.2.2.1) ?_ ?_ ?_ ?_⟩
      · intro q w1 w2
        rw [cr q (by omega) (by omega), jup_row (by omega), q3.1.1 q (by omega) (by omega) (by omega), fC q w2]
      · intro q w1 w2 w3
        rw [d2 q w2, jup_row w2, jup_row w2, jup_row w1, q4.1.1 q w1 w3, fM q w1]
      · rw [d2 86 (by omega), jup_row (by omega), jup_row (by omega), jup_col (by omega), q4.1.2 3 (by omega) (by omega) (by omega) (by omega), fM3 3 (by omega)]
      · rw [d2 86 (by omega), jup_row (by omega), jup_row (by omega), jup_col (by omega), q4.1.2 18 (by omega) (by omega) (by omega) (by omega), fM3 18 (by omega)]
  · rw [show (gf2_readLevel jK).1 0 0 C0 = _ from q1, ob, q2, ob]
    dsimp only
    rw [if_pos rfl, q3.2.1, ob, q4.2.2, if_neg i10]
    dsimp only
    rw [if_pos r9, ob, if_neg (nI_pos (by omega))]
    exact fault c' m' p' q3.1 q4.1 (by omega) q4.2.1

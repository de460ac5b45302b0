/-! COPIES -/
def ag (A B : Nat → Int32) : Prop := ∀ j, j < 210 → B j = A j
theorem GA_ag {A B : Nat → Int32} (g : GA A) (e : ag A B) : GA B ∧ nT B = nT A ∧ nN B = nN A := by
  have g2 := (g_n g).2
  have hT : nT B = nT A := by unfold nT; rw [e 1 (by omega)]
  obtain ⟨h1, h2, h3, h4, ⟨L0, h5⟩, ⟨L1, h6⟩, h7, h8⟩ := g
  refine ⟨⟨by rw [e 1 (by omega)]; exact h1, by rw [e 3 (by omega)]; exact h2, by rw [e 4 (by omega)]; exact h3, by rw [e 0 (by omega)]; exact h4, ⟨L0, TXA_cong h5 (fun j j1 j2 => e j (by omega))⟩, ⟨L1, TXA_cong h6 (fun j j1 j2 => e j (by omega))⟩, ?_, by rw [e 2 (by omega)]; exact h8⟩, hT, by unfold nN; rw [e 0 (by omega)]⟩
  rw [hT]
  intro t ht
  rw [e _ (by omega), e _ (by omega), e _ (by omega), e _ (by omega), e _ (by omega)]
  exact h7 t ht
theorem HC_ag {c : JMu} {h : Nat} {A B : Nat → Int32} (hc : HC c h A) (g : GA A) (e : ag A B) : HC c h B := by
  have g2 := (g_n g).2
  have gb := (g_b g).2
  have gw := (g_w g).2
  have hT : nT B = nT A := by unfold nT; rw [e 1 (by omega)]
  have hB : nB B = nB A := by unfold nB; rw [e 3 (by omega)]
  have hW : nW B = nW A := by unfold nW; rw [e 4 (by omega)]
  have x0 := cdL_c (A := A) (B := B) (a := 106) (by rw [(g_x0 g).1, nI_clamp (by have := (g_x0 g).2.1; omega)]; exact (g_x0 g).2.1) (fun j j1 j2 => e j (by omega))
  have x1 := cdL_c (A := A) (B := B) (a := 158) (by rw [(g_x1 g).1, nI_clamp (by have := (g_x1 g).2.1; omega)]; exact (g_x1 g).2.1) (fun j j1 j2 => e j (by omega))
  obtain ⟨a1, a2, a3, a4, a5, a6, a7, a8, a9, a10, a11, a13, a14⟩ := hc
  unfold HC
  rw [hT, hB, hW, x0, x1, e 0 (by omega), e 2 (by omega), e 5 (by omega), e 1 (by omega), e 3 (by omega), e 4 (by omega)]
  refine ⟨a1, a2, a3, a4, ?_, a6, ?_, a8, ?_, a10, a11, a13, a14⟩
  · intro t f ht hf; rw [e _ (by omega)]; exact a5 t f ht hf
  · intro i hi; rw [e _ (by omega)]; exact a7 i hi
  · intro i hi; rw [e _ (by omega)]; exact a9 i hi
theorem copyM_loop {a b : Nat} (ne : a ≠ b) (la : jlen a = 210) (lb : jlen b = 210) (m0 : JMu) : ∀ d n k (m : JMu), k + d = 210 → d < n → (∀ q, q ≠ b → m q = m0 q) → (∀ j, j < k → m b j = m0 a j) →
    ∃ m', f9_copy_b2 a b n (nI k) m = some m' ∧ (∀ j, j < 210 → m' b j = m0 a j) ∧ (∀ q, q ≠ b → m' q = m0 q) := by
  intro d
  induction d with
  | zero =>
    intro n k m hk hd h1 h2
    obtain ⟨n, rfl⟩ : ∃ n', n = n' + 1 := ⟨n - 1, by omega⟩
    refine ⟨m, ?_, fun j hj => h2 j (by omega), h1⟩
    unfold f9_copy_b2
    rw [if_pos (by show nI 210 ≤ nI k; rw [nI_leI (by omega) (by omega)]; omega)]
  | succ d ih =>
    intro n k m hk hd h1 h2
    obtain ⟨n, rfl⟩ : ∃ n', n = n' + 1 := ⟨n - 1, by omega⟩
    unfold f9_copy_b2
    rw [if_neg (by show ¬ nI 210 ≤ nI k; rw [nI_leI (by omega) (by omega)]; omega), la, lb, if_pos (jin_nI (by omega) (by omega)), if_pos (jin_nI (by omega) (by omega)), nI_clamp (by omega), nI_1]
    refine ih n (k + 1) _ (by omega) (by omega) (fun q hq => by rw [jup_row hq]; exact h1 q hq) (fun j hj => ?_)
    by_cases e : j = k
    · subst e; rw [jup_self, h1 a ne]
    · rw [jup_col e]; exact h2 j (by omega)
theorem copyM {a b : Nat} (ne : a ≠ b) (ia : jI mPl a = true) (ib : jI mPl b = true) (la : jlen a = 210) (lb : jlen b = 210) (m : JMu) :
    ∃ m', f9_copy a b m = some m' ∧ (∀ j, j < 210 → m' b j = m a j) ∧ (∀ q, q ≠ b → m' q = m q) := by
  unfold f9_copy
  rw [if_pos ia, if_pos ib]
  exact copyM_loop ne la lb m 210 jN 0 m (by omega) (by unfold jN; omega) (fun _ _ => rfl) (fun j hj => by omega)
theorem row_copy {p p' n n' s : Nat} {c : JMu} (hp : jRow p n) (hp' : jRow p' n') (hn : n < 2 ^ 31) (hn' : n' < 2 ^ 31) (ne : p ≠ p') (ne1 : p + 1 ≠ p') (ne2 : p ≠ p' + 1) (hs : c p 1 = nI s) (h1 : s ≤ n) (h2 : s ≤ n') :
    ∃ c', f3_copyFrom p' p c = some c' ∧ c' p' 1 = nI s ∧ (∀ i, i < s → c' (p' + 1) i = c (p + 1) i) ∧ (∀ q, q ≠ p' → q ≠ p' + 1 → c' q = c q) ∧ (∀ j, j ≠ 1 → c' p' j = c p' j) := by
  obtain ⟨a1, a2, a3, a4⟩ := hp
  obtain ⟨b1, b2, b3, b4⟩ := hp'
  have mm : jmax 0 (jmin (nI s) (Int32.ofNat n')) = nI s := by
    have : jmin (nI s) (nI n') = nI s := by
      unfold jmin
      by_cases e : nI n' < nI s
      · rw [ltI (by omega) (by omega)] at e; omega
      · rw [if_neg e]
    show jmax 0 (jmin (nI s) (nI n')) = _
    rw [this]
    unfold jmax
    by_cases e : (0 : Int32) < nI s
    · rw [if_pos e]
    · rw [if_neg e]
      have e' : ¬ nI 0 < nI s := e
      rw [ltI (by omega) (by omega)] at e'
      rw [show s = 0 by omega]; rfl
  have sub0 : ∀ x : Int32, x - 0 = x := by intro x; simp
  have z : ¬ (0 : Int32) < 0 := by decide
  unfold f3_copyFrom f3_takeFrom
  rw [if_pos b1, if_pos a1, b2, if_pos b3, hs, b4, mm, jup_self, jup_row ne, hs, sub0, if_pos b1, if_pos a1, if_neg (nI_pos (by omega)), if_neg z, if_neg z, if_neg (by rw [ltI (by omega) (by omega)]; omega), if_pos (by rw [nI_leI (by omega) (by omega)]; omega), a2, if_pos a3, if_pos b3,
    if_pos ⟨z, z, nI_pos (by omega), by rw [nI_clamp (by omega), a4]; show 0 + s ≤ n; omega, by rw [nI_clamp (by omega)]; show 0 + s ≤ n'; omega⟩, ob, nI_clamp (by omega)]
  refine ⟨_, rfl, ?_, ?_, ?_, ?_⟩
  · show (if p' = p' + 1 ∧ _ then _ else _) = _
    rw [if_neg (by omega), jup_self]
  · intro i hi
    show (if p' + 1 = p' + 1 ∧ 0 ≤ i ∧ i < 0 + s then (jup c p' 1 (nI s)) (p + 1) (0 + (i - 0)) else _) = _
    rw [if_pos ⟨rfl, by omega, by omega⟩, jup_row ne1, Nat.zero_add, Nat.sub_zero]
  · intro q h1 h2
    funext j
    show (if q = p' + 1 ∧ _ then _ else _) = _
    rw [if_neg (by omega), jup_row h1]
  · intro j hj
    show (if p' = p' + 1 ∧ _ then _ else _) = _
    rw [if_neg (by omega), jup_col hj]
theorem ten_copy {p p' : Nat} {c : JMu} (ho : jO cPl p 6 = true) (ho' : jO cPl p' 6 = true) (ne : p ≠ p') (h4 : c p 4 = 0 ∨ c p 4 = 1) :
    ∃ c', f6_copyFrom p' p c = some c' ∧ (∀ f, f < 5 → c' p' f = c p f) ∧ (∀ q, q ≠ p' → c' q = c q) := by
  unfold f6_copyFrom
  rw [if_pos ho', if_pos ho]
  simp only [jup_row ne]
  rw [if_pos h4]
  refine ⟨_, rfl, ?_, ?_⟩
  · intro f hf
    have : f = 0 ∨ f = 1 ∨ f = 2 ∨ f = 3 ∨ f = 4 := by omega
    rcases this with rfl | rfl | rfl | rfl | rfl <;> simp [jup]
  · intro q hq
    rw [jup_row hq, jup_row hq, jup_row hq, jup_row hq, jup_row hq]
theorem hs_far {h h' : Nat} (hh : jH h) (hh' : jH h') (ne : h ≠ h') : h + 20 ≤ h' ∨ h' + 20 ≤ h := by
  rcases hh with rfl | rfl | rfl <;> rcases hh' with rfl | rfl | rfl <;> omega
theorem copy_loop {h h' : Nat} {A : Nat → Int32} (hh : jH h) (hh' : jH h') (ne : h ≠ h') (g : GA A) (c0 : JMu) : ∀ d n k (c : JMu), HC c h A → c h' 0 = A 0 → c h' 1 = A 2 → c h' 2 = A 5 → c h' 3 = A 1 → c (h' + 12) 0 = 0 → c (h' + 16) 0 = 1 →
    (∀ t f, t < k → f < 5 → c (h' + 2 + t) f = A (6 + 5 * t + f)) → eH h' c0 c → k + d = nT A → d < n → ∃ c', f0_copyFrom_b34 h' h n (nI k) c = some c' ∧ HC c' h' A ∧ eH h' c0 c' := by
  obtain ⟨g1, g2⟩ := g_n g
  have far := hs_far hh hh' ne
  intro d
  induction d with
  | zero =>
    intro n k c hc q0 q1 q2 q3 u0 u1 qt e hk hd
    obtain ⟨n, rfl⟩ : ∃ n', n = n' + 1 := ⟨n - 1, by omega⟩
    obtain rfl : k = nT A := by omega
    obtain ⟨b1, b2⟩ := g_b g
    obtain ⟨w1, w2⟩ := g_w g
    obtain ⟨a1, a2, a3, a4, a5, a6, a7, a8, a9, a10, ⟨a11, a12⟩, a13, ⟨a14, a15⟩⟩ := hc
    have l0 := (g_x0 g).2.1
    have l1 := (g_x1 g).2.1
    obtain ⟨c1, r1, s1, t1, f1, v1⟩ := row_copy (c := c) (hs_tape hh) (hs_tape hh') (by omega) (by omega) (by omega) (by omega) (by omega) (a6.trans b1) b2 b2
    obtain ⟨c2, r2, s2, t2, f2, v2⟩ := row_copy (c := c1) (s := nW A) (hs_wait hh) (hs_wait hh') (by omega) (by omega) (by omega) (by omega) (by omega) (by rw [f1 _ (by omega) (by omega)]; exact a8.trans w1) w2 w2
    obtain ⟨l01, l02, l03, l04, l05, l06⟩ := hs_law0 hh
    obtain ⟨l11, l12, l13, l14, l15, l16⟩ := hs_law1 hh
    obtain ⟨m01, m02, m03, m04, m05, m06⟩ := hs_law0 hh'
    obtain ⟨m11, m12, m13, m14, m15, m16⟩ := hs_law1 hh'
    obtain ⟨c3, r3, s3, t3, f3, v3⟩ := row_copy (c := c2) (s := (cdL A 106).length) l06 m06 (by omega) (by omega) (by omega) (by omega) (by omega) (by rw [f2 _ (by omega) (by omega), f1 _ (by omega) (by omega)]; exact a11) l0 l0
    obtain ⟨c4, r4, s4, t4, f4, v4⟩ := row_copy (c := c3) (s := (cdL A 158).length) l16 m16 (by omega) (by omega) (by omega) (by omega) (by omega) (by rw [f3 _ (by omega) (by omega), f2 _ (by omega) (by omega), f1 _ (by omega) (by omega)]; exact a14) l1 l1
    obtain ⟨rr1, rr2, rr3, rr4, rr5⟩ := hs_rf hh
    obtain ⟨rs1, rs2, rs3, rs4, rs5⟩ := hs_rf hh'
    have nx0 : f1_copyFrom (h' + 12) (h + 13) c2 = some c3 := by
      unfold f1_copyFrom
      rw [if_pos m01, if_pos (show jO cPl (h + 13) 3 = true from l06.1), m02, if_pos (show jO cPl (h' + 12 + 1) 3 = true from m06.1)]
      show Option.bind (f3_copyFrom (h' + 12 + 1) (h + 12 + 1) c2) _ = _
      rw [r3]; rfl
    have nx1 : f1_copyFrom (h' + 16) (h + 17) c3 = some c4 := by
      unfold f1_copyFrom
      rw [if_pos m11, if_pos (show jO cPl (h + 17) 3 = true from l16.1), m12, if_pos (show jO cPl (h' + 16 + 1) 3 = true from m16.1)]
      show Option.bind (f3_copyFrom (h' + 16 + 1) (h + 16 + 1) c3) _ = _
      rw [r4]; rfl
    have fr : ∀ q, q ≠ h' + 8 → q ≠ h' + 9 → q ≠ h' + 10 → q ≠ h' + 11 → q ≠ h' + 13 → q ≠ h' + 14 → q ≠ h' + 17 → q ≠ h' + 18 → c4 q = c q := fun q x1 x2 x3 x4 x5 x6 x7 x8 => by
      rw [f4 _ (by omega) (by omega), f3 _ (by omega) (by omega), f2 _ (by omega) (by omega), f1 _ (by omega) (by omega)]
    refine ⟨c4, ?_, ?_, ?_⟩
    · unfold f0_copyFrom_b34
      rw [q3, g1, if_pos (by rw [nI_leI (by omega) (by omega)]; omega), rs2, rr2, if_pos (show jO cPl (h' + 8) 3 = true from (hs_tape hh').1), r1, ob, rs3, rr3, if_pos (show jO cPl (h' + 10) 3 = true from (hs_wait hh').1), r2, ob, rr4, rs4, if_pos l01, if_pos m01, l02, nx0, ob, rr5, rs5, if_pos l11, if_pos m11, l12, nx1, ob]
    · refine ⟨?_, ?_, ?_, ?_, ?_, ?_, ?_, ?_, ?_, ?_, ⟨?_, ?_⟩, ?_, ⟨?_, ?_⟩⟩
      · rw [fr _ (by omega) (by omega) (by omega) (by omega) (by omega) (by omega) (by omega) (by omega)]; exact q0
      · rw [fr _ (by omega) (by omega) (by omega) (by omega) (by omega) (by omega) (by omega) (by omega)]; exact q1
      · rw [fr _ (by omega) (by omega) (by omega) (by omega) (by omega) (by omega) (by omega) (by omega)]; exact q2
      · rw [fr _ (by omega) (by omega) (by omega) (by omega) (by omega) (by omega) (by omega) (by omega)]; exact q3
      · intro t f ht hf
        rw [fr _ (by omega) (by omega) (by omega) (by omega) (by omega) (by omega) (by omega) (by omega)]; exact qt t f ht hf
      · rw [f4 _ (by omega) (by omega), f3 _ (by omega) (by omega), f2 _ (by omega) (by omega), s1, b1]
      · intro i hi
        rw [f4 _ (by omega) (by omega), f3 _ (by omega) (by omega), f2 _ (by omega) (by omega), show h' + 9 = h' + 8 + 1 from rfl, t1 i hi]; exact a7 i hi
      · rw [f4 _ (by omega) (by omega), f3 _ (by omega) (by omega), s2, w1]
      · intro i hi
        rw [f4 _ (by omega) (by omega), f3 _ (by omega) (by omega), show h' + 11 = h' + 10 + 1 from rfl, t2 i hi, f1 _ (by omega) (by omega)]; exact a9 i hi
      · rw [fr _ (by omega) (by omega) (by omega) (by omega) (by omega) (by omega) (by omega) (by omega)]; exact u0
      · rw [f4 _ (by omega) (by omega)]; exact s3
      · intro i hi
        rw [f4 _ (by omega) (by omega), show h' + 13 + 1 = h' + 12 + 1 + 1 from rfl, t3 i hi, f2 _ (by omega) (by omega), f1 _ (by omega) (by omega)]; exact a12 i hi
      · rw [fr _ (by omega) (by omega) (by omega) (by omega) (by omega) (by omega) (by omega) (by omega)]; exact u1
      · exact s4
      · intro i hi
        rw [show h' + 17 + 1 = h' + 16 + 1 + 1 from rfl, t4 i hi, f3 _ (by omega) (by omega), f2 _ (by omega) (by omega), f1 _ (by omega) (by omega)]; exact a15 i hi
    · intro q hq
      rw [fr _ (by omega) (by omega) (by omega) (by omega) (by omega) (by omega) (by omega) (by omega)]; exact e q hq
  | succ d ih =>
    intro n k c hc q0 q1 q2 q3 u0 u1 qt e hk hd
    obtain ⟨n, rfl⟩ : ∃ n', n = n' + 1 := ⟨n - 1, by omega⟩
    have hn' : c h' 3 = nI (nT A) := q3.trans g1
    have hn : c h 3 = nI (nT A) := hc.2.2.2.1.trans g1
    have cf : ∀ f, f < 5 → c (h + 2 + k) f = A (6 + 5 * k + f) := fun f hf => hc.2.2.2.2.1 k f (by omega) hf
    obtain ⟨c1, r1, t1, f1⟩ := ten_copy (c := c) (tn_obj hh (k := k) (by omega)) (tn_obj hh' (k := k) (by omega)) (by omega) (by rw [cf 4 (by omega)]; exact g_e g (by omega))
    unfold f0_copyFrom_b34
    rw [hn', if_neg (by rw [nI_leI (by omega) (by omega)]; omega), find_in hh' hn' g2 (by omega), ob, find_in hh hn g2 (by omega), ob]
    dsimp only
    rw [if_pos (tn_obj hh' (by omega)), r1, ob, nI_1]
    refine ih n (k + 1) c1 (HC_far hc g (fun q h1 h2 => f1 q (by omega))) (by rw [f1 _ (by omega)]; exact q0) (by rw [f1 _ (by omega)]; exact q1) (by rw [f1 _ (by omega)]; exact q2) (by rw [f1 _ (by omega)]; exact q3) (by rw [f1 _ (by omega)]; exact u0) (by rw [f1 _ (by omega)]; exact u1) ?_ (fun q hq => by rw [f1 q (by omega)]; exact e q hq) (by omega) (by omega)
    intro t f ht hf
    by_cases et : t = k
    · subst et; rw [t1 f hf]; exact cf f hf
    · rw [f1 _ (by omega)]; exact qt t f (by omega) hf
theorem copy_eq {h h' : Nat} {A : Nat → Int32} {c : JMu} (hh : jH h) (hh' : jH h') (ne : h ≠ h') (hc : HC c h A) (g : GA A) (u0 : c (h' + 12) 0 = 0) (u1 : c (h' + 16) 0 = 1) : ∃ c', f0_copyFrom h' h c = some c' ∧ HC c' h' A ∧ eH h' c c' := by
  have far := hs_far hh hh' ne
  have hc' := hc
  obtain ⟨a1, a2, a3, a4, -⟩ := hc'
  unfold f0_copyFrom
  rw [if_pos (hs_obj hh'), if_pos (hs_obj hh)]
  simp only [jup_row ne]
  rw [a1, a2, a3, a4]
  refine copy_loop hh hh' ne g c (nT A) jN 0 _ (HC_far hc g (fun q h1 h2 => ?_)) ?_ ?_ ?_ ?_ ?_ ?_ (fun t f ht => by omega) ?_ (by omega) (by have := (g_n g).2; unfold jN; omega)
  · rw [jup_row (by omega), jup_row (by omega), jup_row (by omega), jup_row (by omega)]
  · rw [jup_col (by omega), jup_col (by omega), jup_col (by omega), jup_self]
  · rw [jup_col (by omega), jup_col (by omega), jup_self]
  · rw [jup_col (by omega), jup_self]
  · rw [jup_self]
  · rw [jup_row (by omega), jup_row (by omega), jup_row (by omega), jup_row (by omega)]; exact u0
  · rw [jup_row (by omega), jup_row (by omega), jup_row (by omega), jup_row (by omega)]; exact u1
  · exact eH_tr (eH_tr (eH_tr (eH_up _ _ _ (by omega) (by omega)) (eH_up _ _ _ (by omega) (by omega))) (eH_up _ _ _ (by omega) (by omega))) (eH_up _ _ _ (by omega) (by omega))

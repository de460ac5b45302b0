def gX (i x : Nat) : Nat → Bool := bt (nI x <<< (nI i &&& 31))
theorem gX_bt {i x n : Nat} (hn : n ≤ 6) (hi : i ≤ n) (hx : x < 2 ^ (n - i)) {j : Nat} (hj : j < 32) : gX i x j = (decide (i ≤ j) && x.testBit (j - i)) := by
  have p64 := (p2le (n - i) (by omega)).2
  unfold gX
  rw [b_shl i (by omega) _ hj, bt_nI (by omega) (by omega)]
theorem gX_ct {i x n : Nat} (hn : n ≤ 6) (hi : i ≤ n) (hx : x < 2 ^ (n - i)) : fb_ct (gX i x) n = pcI (nI x) ∧ pcI (nI x) ≤ n - i := by
  have p64 := (p2le (n - i) (by omega)).2
  have e1 : pcI (nI x) = fb_ct x.testBit (n - i) := by
    rw [pcI_nI (by omega)]
    exact fb_ct_cut (by omega) (fun _ _ => rfl) (fun t h1 _ => Nat.testBit_lt_two_pow (Nat.lt_of_lt_of_le hx (Nat.pow_le_pow_right (by omega) h1)))
  have e2 : fb_ct (gX i x) n = fb_ct x.testBit (n - i) := by
    have s := fb_ct_split (gX i x) i (n - i)
    rw [show i + (n - i) = n by omega] at s
    rw [s]
    have z : fb_ct (gX i x) i = 0 := fb_ct_zero.mpr (fun j hj => by
      rw [gX_bt hn hi hx (by omega)]
      have : decide (i ≤ j) = false := decide_eq_false (by omega)
      rw [this]; rfl)
    have w : fb_ct (fun k => gX i x (i + k)) (n - i) = fb_ct x.testBit (n - i) := fb_ct_cong (fun k hk => by
      rw [gX_bt hn hi hx (by omega)]
      have : decide (i ≤ i + k) = true := decide_eq_true (by omega)
      rw [this, Nat.add_sub_cancel_left]; rfl)
    omega
  exact ⟨by rw [e1, e2], by rw [e1]; exact fb_ct_le _ _⟩
theorem vG_eq {S : Nat → Int32} {n i x : Nat} (hn : n ≤ 6) (hi : i ≤ n) (hx : x < 2 ^ (n - i)) (hS : ∀ j, j < n → ∀ c, 24 ≤ c → bt (S j) c = false) (T : Int32) : vG S n i T x + fb_ct (gX i x) n = (n - i) + nT' (Wb S) (gX i x) (bt T) n := by
  obtain ⟨g1, g2⟩ := gX_ct hn hi hx
  have e : pcI (sWi S (nI x <<< (nI i &&& 31)) n &&& (T ^^^ (-1))) = nT' (Wb S) (gX i x) (bt T) n := by
    apply fb_ct_cut (by omega)
    · intro c hc
      rw [b_and, b_xor, b_m1 c (by omega), sWi_bt]
      unfold gX
      cases nb (Wb S) (bt (nI x <<< (nI i &&& 31))) n c <;> cases bt T c <;> rfl
    · intro c h1 h2
      rw [b_and, sWi_bt]
      cases q : nb (Wb S) (bt (nI x <<< (nI i &&& 31))) n c
      · rfl
      · obtain ⟨j, j1, j2, j3⟩ := (nb_iff _ _ _ _).mp q
        unfold Wb at j3
        rw [hS j j1 c h1] at j3
        exact absurd j3 (by decide)
  unfold vG
  rw [e]
  omega
theorem mostFrom_eq {c : JMu} {n i : Nat} (hn : n ≤ 6) (hi : i ≤ n) (h : c 70 1 = nI n) (hS : ∀ j, j < n → ∀ x, 24 ≤ x → bt (c 71 j) x = false) (T : Int32) : ∃ K, f7_mostFrom (nI i) T c = some (nI K) ∧ K ≤ n ∧ Mn (Wb (c 71)) n i (bt T) K := by
  have p64 := (p2le (n - i) (by omega)).2
  have p1 := (p2le (n - i) (by omega)).1
  have mx : jmax 0 (nI n - nI i) = nI (n - i) := by
    rw [pk_sub hi]
    unfold jmax
    by_cases e : (0 : Int32) < nI (n - i)
    · rw [if_pos e]
    · rw [if_neg e]
      have e' : ¬ nI 0 < nI (n - i) := e
      rw [ltI (by omega) (by omega)] at e'
      rw [show n - i = 0 by omega]; rfl
  obtain ⟨K, k1, k2, k3, k4⟩ := most_loop hn hi h T (2 ^ (n - i)) jN 0 (n - i) (by omega) (by unfold jN; omega) (by omega) (fun y hy => by omega) (Or.inl rfl) (fun y hy => (gX_ct hn hi hy).2)
  refine ⟨K, ?_, k2, ?_, ?_⟩
  · unfold f7_mostFrom
    rw [h, mx]; exact k1
  · intro g hg
    obtain ⟨x, x1, x2⟩ := mask_of (fun t => g (i + t)) (n - i)
    have same : ∀ j, j < n → gX i x j = g j := by
      intro j hj
      rw [gX_bt hn hi x1 (by omega)]
      by_cases q : i ≤ j
      · have d : decide (i ≤ j) = true := decide_eq_true q
        rw [d, x2 (j - i) (by omega)]
        show (true && g (i + (j - i))) = g j
        rw [show i + (j - i) = j by omega]; rfl
      · have d : decide (i ≤ j) = false := decide_eq_false q
        rw [d, hg j (by omega)]; rfl
    have e1 : fb_ct (gX i x) n = fb_ct g n := fb_ct_cong same
    have e2 : nT' (Wb (c 71)) (gX i x) (bt T) n = nT' (Wb (c 71)) g (bt T) n := by
      apply fb_ct_cong
      intro y _
      have : nb (Wb (c 71)) (gX i x) n y = nb (Wb (c 71)) g n y := by
        apply Bool.eq_iff_iff.mpr
        rw [nb_iff, nb_iff]
        constructor
        · rintro ⟨j, j1, j2, j3⟩; exact ⟨j, j1, by rw [← same j j1]; exact j2, j3⟩
        · rintro ⟨j, j1, j2, j3⟩; exact ⟨j, j1, by rw [same j j1]; exact j2, j3⟩
      rw [this]
    have v := vG_eq hn hi x1 hS T
    have := k3 x x1
    omega
  · rcases k4 with e | ⟨x, x1, x2⟩
    · refine ⟨fun _ => false, fun _ _ => rfl, ?_⟩
      have e2 : nT' (Wb (c 71)) (fun _ => false) (bt T) n = 0 := fb_ct_zero.mpr (fun y _ => by
        have : nb (Wb (c 71)) (fun _ => false) n y = false := by
          cases q : nb (Wb (c 71)) (fun _ => false) n y
          · rfl
          · obtain ⟨j, j1, j2, j3⟩ := (nb_iff _ _ _ _).mp q
            exact absurd j2 (by decide)
        rw [this]; rfl)
      omega
    · refine ⟨gX i x, fun j hj => ?_, ?_⟩
      · rw [gX_bt hn hi x1 (by omega)]
        have : decide (i ≤ j) = false := decide_eq_false (by omega)
        rw [this]; rfl
      · have v := vG_eq hn hi x1 hS T
        omega

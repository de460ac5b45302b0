/-! ROOMS: the least of all groups -/
def nb (W : Nat → Nat → Bool) (g : Nat → Bool) : Nat → Nat → Bool
  | 0, _ => false
  | k + 1, c => nb W g k c || (g k && W k c)
theorem nb_iff (W : Nat → Nat → Bool) (g : Nat → Bool) (c : Nat) : ∀ n, nb W g n c = true ↔ ∃ j, j < n ∧ g j = true ∧ W j c = true
  | 0 => by simp [nb]
  | n + 1 => by
    unfold nb
    rw [Bool.or_eq_true, nb_iff W g c n, Bool.and_eq_true]
    constructor
    · rintro (⟨j, h1, h2⟩ | ⟨h1, h2⟩)
      · exact ⟨j, by omega, h2⟩
      · exact ⟨n, by omega, h1, h2⟩
    · rintro ⟨j, h1, h2, h3⟩
      by_cases e : j = n
      · subst e; exact Or.inr ⟨h2, h3⟩
      · exact Or.inl ⟨j, by omega, h2, h3⟩
def nT' (W : Nat → Nat → Bool) (g T : Nat → Bool) (n : Nat) : Nat := fb_ct (fun c => nb W g n c && !T c) 24
/-- k is the least, over groups of those from i on -/
def Mn (W : Nat → Nat → Bool) (n i : Nat) (T : Nat → Bool) (k : Nat) : Prop :=
  (∀ g : Nat → Bool, (∀ j, j < i → g j = false) → k + fb_ct g n ≤ (n - i) + nT' W g T n) ∧ (∃ g : Nat → Bool, (∀ j, j < i → g j = false) ∧ (n - i) + nT' W g T n ≤ k + fb_ct g n)
theorem Mn_uniq {W : Nat → Nat → Bool} {n i : Nat} {T : Nat → Bool} {k k' : Nat} (h : Mn W n i T k) (h' : Mn W n i T k') : k = k' := by
  obtain ⟨a, g, g1, g2⟩ := h
  obtain ⟨a', g', g1', g2'⟩ := h'
  have := a g' g1'
  have := a' g g1
  omega
theorem ct_incl {p q : Nat → Bool} {n : Nat} (h : ∀ k, k < n → p k = true → q k = true) : fb_ct p n ≤ fb_ct q n := fb_ct_sub h
theorem ct_uni (a b : Nat → Bool) : ∀ n, fb_ct (fun k => a k || b k) n + fb_ct (fun k => a k && b k) n = fb_ct a n + fb_ct b n
  | 0 => rfl
  | n + 1 => by
    have := ct_uni a b n
    simp only [fb_ct_succ]
    cases a n <;> cases b n <;> simp <;> omega
theorem nb_or (W : Nat → Nat → Bool) (g h : Nat → Bool) (c : Nat) : ∀ n, nb W (fun j => g j || h j) n c = (nb W g n c || nb W h n c)
  | 0 => rfl
  | n + 1 => by
    unfold nb
    rw [nb_or W g h c n]
    cases nb W g n c <;> cases nb W h n c <;> cases g n <;> cases h n <;> cases W n c <;> rfl
theorem tight_or {W : Nat → Nat → Bool} {n i d : Nat} {T : Nat → Bool} (hall : ∀ g : Nat → Bool, (∀ j, j < i → g j = false) → d + fb_ct g n ≤ (n - i) + nT' W g T n) {g h : Nat → Bool} (g0 : ∀ j, j < i → g j = false) (h0 : ∀ j, j < i → h j = false)
    (g1 : (n - i) + nT' W g T n ≤ d + fb_ct g n) (h1 : (n - i) + nT' W h T n ≤ d + fb_ct h n) : (n - i) + nT' W (fun j => g j || h j) T n ≤ d + fb_ct (fun j => g j || h j) n := by
  have e1 := ct_uni g h n
  have e2 := ct_uni (fun c => nb W g n c && !T c) (fun c => nb W h n c && !T c) 24
  have e3 := hall (fun j => g j && h j) (fun j hj => by show (g j && h j) = false; rw [g0 j hj]; rfl)
  have e4 : nT' W (fun j => g j && h j) T n ≤ fb_ct (fun c => (nb W g n c && !T c) && (nb W h n c && !T c)) 24 := by
    apply ct_incl
    intro c _ hc
    simp only [Bool.and_eq_true] at hc ⊢
    obtain ⟨hc1, hc2⟩ := hc
    obtain ⟨j, j1, j2, j3⟩ := (nb_iff W _ c n).mp hc1
    simp only [Bool.and_eq_true] at j2
    exact ⟨⟨(nb_iff W g c n).mpr ⟨j, j1, j2.1, j3⟩, hc2⟩, (nb_iff W h c n).mpr ⟨j, j1, j2.2, j3⟩, hc2⟩
  have e5 : nT' W (fun j => g j || h j) T n = fb_ct (fun c => (nb W g n c && !T c) || (nb W h n c && !T c)) 24 := by
    apply fb_ct_cong
    intro c _
    rw [nb_or]
    cases nb W g n c <;> cases nb W h n c <;> cases T c <;> rfl
  unfold nT' at *
  omega
/-- singles cover no more cells than they are -/
theorem single_le {W : Nat → Nat → Bool} : ∀ (n : Nat) (g : Nat → Bool), (∀ j, j < n → g j = true → fb_ct (W j) 24 ≤ 1) → fb_ct (nb W g n) 24 ≤ fb_ct g n
  | 0, g, _ => by
    have : fb_ct (nb W g 0) 24 = 0 := fb_ct_zero.mpr (fun _ _ => rfl)
    omega
  | n + 1, g, h => by
    have ih := single_le n g (fun j hj => h j (by omega))
    have u := ct_uni (nb W g n) (fun c => g n && W n c) 24
    have e : fb_ct (nb W g (n + 1)) 24 = fb_ct (fun c => nb W g n c || (g n && W n c)) 24 := fb_ct_cong (fun _ _ => rfl)
    rw [e, fb_ct_succ g n]
    by_cases q : g n = true
    · have w := h n (by omega) q
      have z : fb_ct (fun c => g n && W n c) 24 = fb_ct (W n) 24 := fb_ct_cong (fun _ _ => by rw [q]; rfl)
      rw [if_pos q]
      omega
    · have z : fb_ct (fun c => g n && W n c) 24 = 0 := fb_ct_zero.mpr (fun _ _ => by rw [show g n = false by simpa using q]; rfl)
      rw [if_neg q]
      omega
/-- (b): the earlier ones have single cells, T all told -/
theorem fixed_min {W W' : Nat → Nat → Bool} {n i k : Nat} {T : Nat → Bool} (hi : i ≤ n) (hT : ∀ c, c < 24 → (T c = true ↔ ∃ j, j < i ∧ W' j c = true)) (h1 : ∀ j, j < i → fb_ct (W' j) 24 ≤ 1) (same : ∀ j, i ≤ j → W' j = W j)
    (h : Mn W n i T k) : Mn W' n 0 (fun _ => false) (fb_ct T 24 + k) := by
  obtain ⟨a, g, g1, g2⟩ := h
  have same2 : ∀ (g : Nat → Bool), (∀ j, j < i → g j = false) → ∀ c, nb W' g n c = nb W g n c := by
    intro g hg c
    apply Bool.eq_iff_iff.mpr
    rw [nb_iff, nb_iff]
    constructor
    · rintro ⟨j, j1, j2, j3⟩
      have : i ≤ j := Nat.le_of_not_lt (fun q => by rw [hg j q] at j2; exact absurd j2 (by decide))
      exact ⟨j, j1, j2, by rw [← same j this]; exact j3⟩
    · rintro ⟨j, j1, j2, j3⟩
      have : i ≤ j := Nat.le_of_not_lt (fun q => by rw [hg j q] at j2; exact absurd j2 (by decide))
      exact ⟨j, j1, j2, by rw [same j this]; exact j3⟩
  constructor
  · intro f _
    -- f = f1 (before i) and f2 (from i on)
    have e2 := a (fun j => decide (i ≤ j) && f j) (fun j hj => by simp; omega)
    have cnt : fb_ct f n + fb_ct (fun j => decide (j < i) && !f j) n ≤ i + fb_ct (fun j => decide (i ≤ j) && f j) n := by
      have x1 : fb_ct (fun j => (decide (j < i) && f j) || (decide (i ≤ j) && f j)) n = fb_ct (fun j => decide (j < i) && f j) n + fb_ct (fun j => decide (i ≤ j) && f j) n := fb_ct_or (fun j _ h => by
        simp only [Bool.and_eq_true, decide_eq_true_eq] at h; omega)
      have x2 : fb_ct f n = fb_ct (fun j => (decide (j < i) && f j) || (decide (i ≤ j) && f j)) n := fb_ct_cong (fun j _ => by
        by_cases q : j < i
        · have : ¬ i ≤ j := by omega
          simp [q, this]
        · have : i ≤ j := by omega
          simp [q, this])
      have x3 : fb_ct (fun j => (decide (j < i) && f j) || (decide (j < i) && !f j)) n = fb_ct (fun j => decide (j < i) && f j) n + fb_ct (fun j => decide (j < i) && !f j) n := fb_ct_or (fun j _ h => by
        simp only [Bool.and_eq_true, decide_eq_true_eq, Bool.not_eq_true'] at h
        rw [h.1.2] at h; exact absurd h.2.2 (by decide))
      have x4 : fb_ct (fun j => (decide (j < i) && f j) || (decide (j < i) && !f j)) n ≤ i := by
        obtain ⟨d, rfl⟩ : ∃ d, n = i + d := ⟨n - i, by omega⟩
        rw [fb_ct_split]
        have z : fb_ct (fun k => (decide (i + k < i) && f (i + k)) || (decide (i + k < i) && !f (i + k))) d = 0 := fb_ct_zero.mpr (fun k _ => by
          have q : decide (i + k < i) = false := decide_eq_false (by omega)
          simp only [q, Bool.false_and, Bool.or_false])
        have := fb_ct_le (fun j => (decide (j < i) && f j) || (decide (j < i) && !f j)) i
        omega
      omega
    -- the cells
    have cell : fb_ct (fun c => T c || (nb W (fun j => decide (i ≤ j) && f j) n c && !T c)) 24 ≤ fb_ct (nb W' f n) 24 + fb_ct (nb W' (fun j => decide (j < i) && !f j) n) 24 := by
      have x1 := ct_uni (nb W' f n) (nb W' (fun j => decide (j < i) && !f j) n) 24
      have x2 : fb_ct (fun c => T c || (nb W (fun j => decide (i ≤ j) && f j) n c && !T c)) 24 ≤ fb_ct (fun c => nb W' f n c || nb W' (fun j => decide (j < i) && !f j) n c) 24 := by
        apply ct_incl
        intro c hc h
        simp only [Bool.or_eq_true, Bool.and_eq_true] at h ⊢
        rcases h with h | ⟨h, -⟩
        · obtain ⟨j, j1, j2⟩ := (hT c hc).mp h
          cases q : f j
          · exact Or.inr ((nb_iff _ _ _ _).mpr ⟨j, by omega, by simp [j1, q], j2⟩)
          · exact Or.inl ((nb_iff _ _ _ _).mpr ⟨j, by omega, q, j2⟩)
        · obtain ⟨j, j1, j2, j3⟩ := (nb_iff _ _ _ _).mp h
          simp only [Bool.and_eq_true, decide_eq_true_eq] at j2
          exact Or.inl ((nb_iff _ _ _ _).mpr ⟨j, j1, j2.2, by rw [same j j2.1]; exact j3⟩)
      omega
    have cs := single_le (W := W') n (fun j => decide (j < i) && !f j) (fun j _ hj => by
      simp only [Bool.and_eq_true, decide_eq_true_eq] at hj
      exact h1 j hj.1)
    have dis : fb_ct (fun c => T c || (nb W (fun j => decide (i ≤ j) && f j) n c && !T c)) 24 = fb_ct T 24 + nT' W (fun j => decide (i ≤ j) && f j) T n := fb_ct_or (fun c _ h => by
      simp only [Bool.and_eq_true, Bool.not_eq_true'] at h
      rw [h.1] at h; exact absurd h.2.2 (by decide))
    have fin : nT' W' f (fun _ => false) n = fb_ct (nb W' f n) 24 := fb_ct_cong (fun c _ => by simp)
    omega
  · refine ⟨fun j => decide (j < i) || g j, fun j hj => by omega, ?_⟩
    have x1 : fb_ct (fun j => decide (j < i) || g j) n = fb_ct (fun j => decide (j < i)) n + fb_ct g n := fb_ct_or (fun j _ h => by
      simp only [decide_eq_true_eq] at h
      rw [g1 j h.1] at h; exact absurd h.2 (by decide))
    have x2 : fb_ct (fun j => decide (j < i)) n = i := by
      obtain ⟨d, rfl⟩ : ∃ d, n = i + d := ⟨n - i, by omega⟩
      rw [fb_ct_split, fb_ct_all.mpr (fun k hk => by simp [hk]), fb_ct_zero.mpr (fun k _ => by simp)]
      exact Nat.add_zero i
    have x3 : nT' W' (fun j => decide (j < i) || g j) (fun _ => false) n ≤ fb_ct (fun c => T c || (nb W g n c && !T c)) 24 := by
      apply ct_incl
      intro c hc h
      simp only [Bool.and_eq_true] at h
      obtain ⟨j, j1, j2, j3⟩ := (nb_iff _ _ _ _).mp h.1
      by_cases q : j < i
      · have : T c = true := (hT c hc).mpr ⟨j, q, j3⟩
        simp [this]
      · have gj : g j = true := by simpa [q] using j2
        have : nb W g n c = true := (nb_iff _ _ _ _).mpr ⟨j, j1, gj, by rw [← same j (by omega)]; exact j3⟩
        cases e : T c <;> simp [this]
    have dis : fb_ct (fun c => T c || (nb W g n c && !T c)) 24 = fb_ct T 24 + nT' W g T n := fb_ct_or (fun c _ h => by
      simp only [Bool.and_eq_true, Bool.not_eq_true'] at h
      rw [h.1] at h; exact absurd h.2.2 (by decide))
    omega

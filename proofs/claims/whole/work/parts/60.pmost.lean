/-! ROOMS: the class's minimum over the groups -/
theorem mask_of (p : Nat → Bool) : ∀ m, ∃ x, x < 2 ^ m ∧ ∀ t, t < m → x.testBit t = p t
  | 0 => ⟨0, by decide, fun t ht => by omega⟩
  | m + 1 => by
    obtain ⟨x, x1, x2⟩ := mask_of p m
    cases q : p m
    · refine ⟨x, by rw [Nat.pow_succ]; omega, fun t ht => ?_⟩
      by_cases e : t = m
      · subst e; rw [q]; exact Nat.testBit_lt_two_pow x1
      · exact x2 t (by omega)
    · refine ⟨2 ^ m + x, by rw [Nat.pow_succ]; omega, fun t ht => ?_⟩
      by_cases e : t = m
      · subst e
        rw [q, Nat.testBit_two_pow_add_eq, Nat.testBit_lt_two_pow x1]; rfl
      · rw [Nat.testBit_two_pow_add_gt (by omega)]; exact x2 t (by omega)
def Wb (S : Nat → Int32) (j c : Nat) : Bool := bt (S j) c
def sWi (S : Nat → Int32) (g : Int32) : Nat → Int32
  | 0 => 0
  | k + 1 => if bt g k then sWi S g k ||| S k else sWi S g k
theorem sWi_s (S : Nat → Int32) (g : Int32) (k : Nat) : sWi S g (k + 1) = if bt g k then sWi S g k ||| S k else sWi S g k := rfl
theorem sWi_bt (S : Nat → Int32) (g : Int32) (c : Nat) : ∀ k, bt (sWi S g k) c = nb (Wb S) (bt g) k c
  | 0 => b_0 c
  | k + 1 => by
    rw [sWi_s]
    unfold nb
    cases q : bt g k
    · simp [sWi_bt S g c k]
    · rw [if_pos rfl, b_or, sWi_bt S g c k]
      simp [Wb]
theorem wished_loop {c : JMu} {n : Nat} (hn : n ≤ 6) (h : c 70 1 = nI n) (g : Int32) : ∀ d f k, k + d = n → d < f → f7_wishedBy_b4 f g (sWi (c 71) g k) (nI k) c = some (sWi (c 71) g n) := by
  intro d
  induction d with
  | zero =>
    intro f k hk hd
    obtain ⟨f, rfl⟩ : ∃ q, f = q + 1 := ⟨f - 1, by omega⟩
    obtain rfl : k = n := by omega
    unfold f7_wishedBy_b4
    rw [h, if_pos (by rw [nI_leI (by omega) (by omega)]; omega)]
  | succ d ih =>
    intro f k hk hd
    obtain ⟨f, rfl⟩ : ∃ q, f = q + 1 := ⟨f - 1, by omega⟩
    have i1 := ih f (k + 1) (by omega) (by omega)
    rw [sWi_s] at i1
    unfold f7_wishedBy_b4
    rw [h, if_neg (by rw [nI_leI (by omega) (by omega)]; omega), nI_1]
    cases q : bt g k
    · rw [if_pos ((b_sel0 g k (by omega)).mpr q)]
      rw [q] at i1; exact i1
    · rw [if_neg (by rw [b_sel0 g k (by omega), q]; decide), get_in rs_70 (by omega) h (by omega) hn, ob]
      rw [q] at i1; exact i1
theorem wished_eq {c : JMu} {n : Nat} (hn : n ≤ 6) (h : c 70 1 = nI n) (g : Int32) : f7_wishedBy g c = some (sWi (c 71) g n) := by
  unfold f7_wishedBy
  exact wished_loop hn h g n jN 0 (by omega) (by unfold jN; omega)
def vG (S : Nat → Int32) (n i : Nat) (T : Int32) (x : Nat) : Nat := (n - i) - pcI (nI x) + pcI (sWi S (nI x <<< (nI i &&& 31)) n &&& (T ^^^ (-1)))
theorem most_loop {c : JMu} {n i : Nat} (hn : n ≤ 6) (hi : i ≤ n) (h : c 70 1 = nI n) (T : Int32) : ∀ d f x M, x + d = 2 ^ (n - i) → d < f → M ≤ n → (∀ y, y < x → M ≤ vG (c 71) n i T y) → (M = n - i ∨ ∃ y, y < x ∧ M = vG (c 71) n i T y) → (∀ y, y < 2 ^ (n - i) → pcI (nI y) ≤ n - i) →
    ∃ K, f7_mostFrom_b20 f (nI i) T (nI (n - i)) (nI M) (nI x) c = some (nI K) ∧ K ≤ n ∧ (∀ y, y < 2 ^ (n - i) → K ≤ vG (c 71) n i T y) ∧ (K = n - i ∨ ∃ y, y < 2 ^ (n - i) ∧ K = vG (c 71) n i T y) := by
  have p64 := (p2le (n - i) (by omega)).2
  have sh : (1 : Int32) <<< (nI (n - i) &&& 31) = nI (2 ^ (n - i)) := one_nI (by omega)
  intro d
  induction d with
  | zero =>
    intro f x M hx hf hM h1 h2 h3
    obtain ⟨f, rfl⟩ : ∃ q, f = q + 1 := ⟨f - 1, by omega⟩
    obtain rfl : x = 2 ^ (n - i) := by omega
    refine ⟨M, ?_, hM, h1, h2⟩
    unfold f7_mostFrom_b20
    rw [sh, if_pos (by rw [nI_leI (by omega) (by omega)]; omega)]
  | succ d ih =>
    intro f x M hx hf hM h1 h2 h3
    obtain ⟨f, rfl⟩ : ∃ q, f = q + 1 := ⟨f - 1, by omega⟩
    have pc := h3 x (by omega)
    have pl := pcI_le (sWi (c 71) (nI x <<< (nI i &&& 31)) n &&& (T ^^^ (-1)))
    unfold f7_mostFrom_b20
    rw [sh, if_neg (by rw [nI_leI (by omega) (by omega)]; omega), wished_eq hn h, ob, bitCount_eq, ob, bitCount_eq, ob, pk_sub pc, nI_add, nI_1, show (n - i) - pcI (nI x) + pcI (sWi (c 71) (nI x <<< (nI i &&& 31)) n &&& (T ^^^ (-1))) = vG (c 71) n i T x from rfl,
      jmin_nI (by omega) (by unfold vG; omega)]
    refine ih f (x + 1) (min M (vG (c 71) n i T x)) (by omega) (by omega) (by omega) (fun y hy => ?_) ?_ h3
    · by_cases e : y = x
      · subst e; omega
      · have := h1 y (by omega); omega
    · by_cases e : M ≤ vG (c 71) n i T x
      · rw [Nat.min_eq_left e]
        rcases h2 with h2 | ⟨y, y1, y2⟩
        · exact Or.inl h2
        · exact Or.inr ⟨y, by omega, y2⟩
      · rw [Nat.min_eq_right (by omega)]
        exact Or.inr ⟨x, by omega, rfl⟩

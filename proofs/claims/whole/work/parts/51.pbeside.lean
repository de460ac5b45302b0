/-! BESIDE -/
def nbB (x : Int32) (i : Nat) : Bool := (decide (8 ≤ i) && bt x (i - 8)) || ((decide (i < 16) && bt x (i + 8)) || ((decide (i % 8 ≠ 0) && bt x (i - 1)) || (decide (i % 8 ≠ 7) && bt x (i + 1))))
theorem mask7 : ∀ i, i < 32 → bt (-8421505) i = !(i == 7 || i == 15 || i == 23) := by decide +kernel
theorem mask0 : ∀ i, i < 32 → bt (-65794) i = !(i == 0 || i == 8 || i == 16) := by decide +kernel
theorem maskA : ∀ i, i < 32 → bt 16777215 i = decide (i < 24) := by decide +kernel
theorem mk7 : ∀ i, i < 24 → 1 ≤ i → (!(i - 1 == 7 || i - 1 == 15 || i - 1 == 23)) = decide (i % 8 ≠ 0) := by decide
theorem mk0 : ∀ i, i < 24 → (!(1 + i == 0 || 1 + i == 8 || 1 + i == 16)) = (decide (i % 8 ≠ 7) || decide (i = 23)) := by decide
theorem beC_bt (x : Int32) (hx : ∀ j, 24 ≤ j → bt x j = false) {i : Nat} (hi : i < 24) : bt ((((x >>> ((8 : Int32) &&& 31)) ||| ((x <<< ((8 : Int32) &&& 31)) &&& (16777215 : Int32))) ||| (((x &&& (-8421505 : Int32)) <<< ((1 : Int32) &&& 31)) ||| ((x &&& (-65794 : Int32)) >>> ((1 : Int32) &&& 31))))) i = nbB x i := by
  rw [b_or, b_or, b_and, b_or, b_sshr8 x (by omega), b_shl8 x (by omega), maskA i (by omega), show (1 : Int32) &&& 31 = nI 1 &&& 31 from rfl, b_shl 1 (by omega) _ (by omega), b_sshr 1 (by omega) _ (by omega), b_and, b_and]
  have e1 : (if 8 + i < 32 then bt x (8 + i) else bt x 31) = (decide (i < 16) && bt x (i + 8)) := by
    by_cases q : i < 16
    · rw [if_pos (by omega), Nat.add_comm]; simp [q]
    · rw [if_pos (by omega), hx (8 + i) (by omega)]; simp [q]
  have e2 : (decide (1 ≤ i) && (bt x (i - 1) && bt (-8421505) (i - 1))) = (decide (i % 8 ≠ 0) && bt x (i - 1)) := by
    by_cases q : 1 ≤ i
    · rw [mask7 (i - 1) (by omega), mk7 i hi q]; simp only [q, decide_true, Bool.true_and]; exact Bool.and_comm _ _
    · obtain rfl : i = 0 := by omega
      simp
  have e3 : (if 1 + i < 32 then bt x (1 + i) && bt (-65794) (1 + i) else bt (x &&& (-65794)) 31) = (decide (i % 8 ≠ 7) && bt x (i + 1)) := by
    rw [if_pos (by omega), mask0 (1 + i) (by omega), mk0 i hi, Nat.add_comm 1 i]
    by_cases q : i = 23
    · subst q; rw [hx 24 (by omega)]; simp
    · simp only [q, decide_false, Bool.or_false]; exact Bool.and_comm _ _
  rw [e1, e2]
  have e3' : (if 1 + i < 32 then bt x (1 + i) && bt (-65794) (1 + i) else bt (x &&& -65794) 31) = (decide (i % 8 ≠ 7) && bt x (i + 1)) := e3
  first
    | rw [e3']
    | (simp only [b_and] at e3' ⊢; rw [e3'])
  have q : decide (i < 24) = true := by simp [hi]
  rw [q]
  unfold nbB
  simp only [Bool.and_true]
  cases decide (8 ≤ i) && bt x (i - 8) <;> cases decide (i < 16) && bt x (i + 8) <;> simp
theorem beM_step {m : JMu} (k70 : Int32 → Int32 → Int32 → Int32 → JMu → Option (Int32 × JMu)) (x held acc : Int32) {i : Nat} (hi : i < 24) (n : Nat) (hk : k70 = f9_beside_b70 n) : f9_beside_b70 (n + 1) x held acc (nI i) m = f9_beside_b70 n x held (if nbB x i && (bt held i && !bt x i) then acc ||| ((1 : Int32) <<< (nI i &&& 31)) else acc) (nI (i + 1)) m := by
  have or0 : ∀ x : Int32, x ||| 0 = x := fun x => by apply b_ext; intro i _; rw [b_or, b_0]; simp
  have e160 : ∀ s : Bool, f9_beside_b160 (f9_beside_b70 n) x held acc (nI i) (if s then 1 else 0) m = f9_beside_b70 n x held (if s && (bt held i && !bt x i) then acc ||| ((1 : Int32) <<< (nI i &&& 31)) else acc) (nI (i + 1)) m := by
    intro s
    unfold f9_beside_b160 f9_beside_b194 f9_beside_b195
    rw [hasBit_eq held i (by omega), ob, hasBit_eq x i (by omega), ob, or0, nI_1]
    cases s
    · rfl
    · cases bt held i
      · rfl
      · cases bt x i
        · rfl
        · rfl
  have e155 : f9_beside_b155 (f9_beside_b70 n) x held acc (nI i) m = f9_beside_b70 n x held (if true && (bt held i && !bt x i) then acc ||| ((1 : Int32) <<< (nI i &&& 31)) else acc) (nI (i + 1)) m := e160 true
  have e159 : f9_beside_b159 (f9_beside_b70 n) x held acc (nI i) m = f9_beside_b70 n x held (if false && (bt held i && !bt x i) then acc ||| ((1 : Int32) <<< (nI i &&& 31)) else acc) (nI (i + 1)) m := e160 false
  have r8 : jrem (nI i) 8 = nI (i % 8) := rem_nI (d := 8) (by omega) (by omega) (by omega)
  have e134 : f9_beside_b134 (f9_beside_b70 n) x held acc (nI i) m = f9_beside_b70 n x held (if (decide (i % 8 ≠ 7) && bt x (i + 1)) && (bt held i && !bt x i) then acc ||| ((1 : Int32) <<< (nI i &&& 31)) else acc) (nI (i + 1)) m := by
    unfold f9_beside_b134
    rw [e155, e159, r8, nI_1, hasBit_eq x (i + 1) (by omega), ob]
    by_cases q : i % 8 = 7
    · rw [if_pos (by show nI 7 ≤ _; rw [nI_leI (by omega) (by omega)]; omega)]; simp [q]
    · rw [if_neg (by show ¬ nI 7 ≤ _; rw [nI_leI (by omega) (by omega)]; omega)]
      cases bt x (i + 1) <;> simp [q]
  have e115 : f9_beside_b115 (f9_beside_b70 n) x held acc (nI i) m = f9_beside_b70 n x held (if ((decide (i % 8 ≠ 0) && bt x (i - 1)) || (decide (i % 8 ≠ 7) && bt x (i + 1))) && (bt held i && !bt x i) then acc ||| ((1 : Int32) <<< (nI i &&& 31)) else acc) (nI (i + 1)) m := by
    unfold f9_beside_b115
    rw [e155, e134, r8]
    by_cases q : i % 8 = 0
    · rw [if_pos (by show _ ≤ nI 0; rw [nI_leI (by omega) (by omega)]; omega)]; simp [q]
    · rw [if_neg (by show ¬ _ ≤ nI 0; rw [nI_leI (by omega) (by omega)]; omega), show (1 : Int32) = nI 1 from rfl, pk_sub (by omega), hasBit_eq x (i - 1) (by omega), ob]
      cases bt x (i - 1) <;> simp [q]
  have e96 : f9_beside_b96 (f9_beside_b70 n) x held acc (nI i) m = f9_beside_b70 n x held (if ((decide (i < 16) && bt x (i + 8)) || ((decide (i % 8 ≠ 0) && bt x (i - 1)) || (decide (i % 8 ≠ 7) && bt x (i + 1)))) && (bt held i && !bt x i) then acc ||| ((1 : Int32) <<< (nI i &&& 31)) else acc) (nI (i + 1)) m := by
    unfold f9_beside_b96
    rw [e155, e115]
    by_cases q : i < 16
    · rw [if_neg (by show ¬ nI 16 ≤ _; rw [nI_leI (by omega) (by omega)]; omega), show (8 : Int32) = nI 8 from rfl, nI_add, hasBit_eq x (i + 8) (by omega), ob]
      cases bt x (i + 8) <;> simp [q]
    · rw [if_pos (by show nI 16 ≤ _; rw [nI_leI (by omega) (by omega)]; omega)]; simp [q]
  conv => lhs; unfold f9_beside_b70
  rw [if_neg (by show ¬ nI 24 ≤ _; rw [nI_leI (by omega) (by omega)]; omega), e155, e96]
  unfold nbB
  by_cases q : 8 ≤ i
  · rw [if_neg (by show ¬ _ < nI 8; rw [ltI (by omega) (by omega)]; omega), show (8 : Int32) = nI 8 from rfl, pk_sub q, hasBit_eq x (i - 8) (by omega), ob]
    cases bt x (i - 8) <;> simp [q]
  · rw [if_pos (by show _ < nI 8; rw [ltI (by omega) (by omega)]; omega)]; simp [q]
def sBe (x held : Int32) : Nat → Int32
  | 0 => 0
  | i + 1 => if nbB x i && (bt held i && !bt x i) then sBe x held i ||| ((1 : Int32) <<< (nI i &&& 31)) else sBe x held i
theorem sBe_s (x held : Int32) (i : Nat) : sBe x held (i + 1) = if nbB x i && (bt held i && !bt x i) then sBe x held i ||| ((1 : Int32) <<< (nI i &&& 31)) else sBe x held i := rfl
theorem sBe_bt (x held : Int32) {j : Nat} (hj : j < 32) : ∀ k, k ≤ 24 → bt (sBe x held k) j = (decide (j < k) && (nbB x j && (bt held j && !bt x j)))
  | 0, _ => by unfold sBe; rw [b_0]; simp
  | k + 1, hk => by
    have ih := sBe_bt x held hj k (by omega)
    rw [sBe_s]
    by_cases e : (nbB x k && (bt held k && !bt x k)) = true
    · rw [if_pos e, b_or, ih, b_one k (by omega) hj]
      by_cases q : j = k
      · subst q; rw [e]; simp
      · have : decide (j < k + 1) = decide (j < k) := decide_eq_decide.mpr (by omega)
        rw [this]; simp [q]
    · rw [if_neg e, ih]
      by_cases q : j = k
      · subst q; rw [show (nbB x j && (bt held j && !bt x j)) = false by simpa using e]; simp
      · have : decide (j < k + 1) = decide (j < k) := decide_eq_decide.mpr (by omega)
        rw [this]
theorem beM_loop {m : JMu} (x held : Int32) : ∀ d n k, k + d = 24 → d < n → f9_beside_b70 n x held (sBe x held k) (nI k) m = some (sBe x held 24, m) := by
  intro d
  induction d with
  | zero =>
    intro n k hk hd
    obtain ⟨n, rfl⟩ : ∃ n', n = n' + 1 := ⟨n - 1, by omega⟩
    obtain rfl : k = 24 := by omega
    unfold f9_beside_b70
    rw [if_pos (by decide)]
  | succ d ih =>
    intro n k hk hd
    obtain ⟨n, rfl⟩ : ∃ n', n = n' + 1 := ⟨n - 1, by omega⟩
    rw [beM_step (f9_beside_b70 n) x held _ (by omega) n rfl, ← sBe_s]
    exact ih n (k + 1) (by omega) (by omega)
theorem beH_loop {m : JMu} (g : GA (m 87)) (t : Nat) (x : Int32) (ht : t < nT (m 87)) : ∀ d n k, k + d = nT (m 87) → d < n → f9_beside_b27 n (nI t) x (sHeld (m 87) (nI t) k) (nI k) m = f9_beside_b70 jN x (sHeld (m 87) (nI t) (nT (m 87))) 0 0 m := by
  obtain ⟨g1, g2⟩ := g_n g
  have or0 : ∀ x : Int32, x ||| 0 = x := fun x => by apply b_ext; intro i _; rw [b_or, b_0]; simp
  intro d
  induction d with
  | zero =>
    intro n k hk hd
    obtain ⟨n, rfl⟩ : ∃ n', n = n' + 1 := ⟨n - 1, by omega⟩
    obtain rfl : k = nT (m 87) := by omega
    conv => lhs; unfold f9_beside_b27
    rw [g1, if_pos (by rw [nI_leI (by omega) (by omega)]; omega)]
  | succ d ih =>
    intro n k hk hd
    obtain ⟨n, rfl⟩ : ∃ n', n = n' + 1 := ⟨n - 1, by omega⟩
    have i1 := ih n (k + 1) (by omega) (by omega)
    rw [sHeld_s] at i1
    conv => lhs; unfold f9_beside_b27 f9_beside_b56
    rw [if_neg (by rw [g1, nI_leI (by omega) (by omega)]; omega), ten2 m (by omega), ob, or0, nI_1]
    by_cases e : nI k = nI t
    · rw [if_pos e]; rw [if_pos e] at i1; exact i1
    · rw [if_neg e]; rw [if_neg e] at i1; exact i1
theorem lease_hi {A : Nat → Int32} (g : GA A) {t : Nat} (ht : t < nT A) : ∀ j, 24 ≤ j → bt (A (6 + 5 * t + 2)) j = false := by
  intro j hj
  obtain ⟨x, x1, x2⟩ := g_l g ht
  by_cases q : j < 32
  · rw [x2, bt_nI (by omega) q]
    exact Nat.testBit_lt_two_pow (Nat.lt_of_lt_of_le x1 (Nat.pow_le_pow_right (by omega) hj))
  · exact b_big (by omega)
theorem held_hi {A : Nat → Int32} (g : GA A) (x : Int32) {j : Nat} (hj : 24 ≤ j) : ∀ k, k ≤ nT A → bt (sHeld A x k) j = false
  | 0, _ => by unfold sHeld; exact b_0 j
  | k + 1, hk => by
    have ih := held_hi g x hj k (by omega)
    rw [sHeld_s]
    split
    · exact ih
    · rw [b_or, ih, lease_hi g (t := k) (by omega) j hj]; rfl
theorem act_beside {c m : JMu} (r : R c m) (x : Int32) : Ans (f8_beside x c) (f9_beside x m) := by
  have g := r.2.1
  have g2 := (g_n g).2
  unfold f8_beside f9_beside
  rcases ten_two r x with ⟨h1, h2⟩ | ⟨t, ht, rfl, h1, h2⟩
  · rw [h1, h2, ob, ob, if_pos rfl]; exact ans_err1 r
  · have hb := beH_loop g t (m 87 (6 + 5 * t + 2)) ht (nT (m 87)) jN 0 (by omega) (by unfold jN; omega)
    have hm := beM_loop (m := m) (m 87 (6 + 5 * t + 2)) (sHeld (m 87) (nI t) (nT (m 87))) 24 jN 0 (by omega) (by unfold jN; omega)
    rw [h1, h2, ob, ob, if_neg i10, ten2 m (by omega), ob]
    dsimp only
    rw [if_pos (tn1 (by omega)), r.1.2.2.2.2.1 t 2 ht (by omega), held_eq jH1 r.1 g]
    unfold f8_besideCells
    rw [ob, ob, show f9_beside_b27 jN (nI t) (m 87 (6 + 5 * t + 2)) 0 0 m = _ from hb, show f9_beside_b70 jN _ _ 0 0 m = _ from hm]
    refine ⟨_, _, _, rfl, ?_, r⟩
    congr 2
    apply b_ext
    intro i hi
    rw [sBe_bt _ _ hi 24 (by omega), b_and, b_and, b_xor, b_m1 i hi]
    by_cases q : i < 24
    · rw [beC_bt _ (lease_hi g ht) q]
      simp only [q, decide_true, Bool.true_and]
      cases nbB (m 87 (6 + 5 * t + 2)) i <;> cases bt (sHeld (m 87) (nI t) (nT (m 87))) i <;> cases bt (m 87 (6 + 5 * t + 2)) i <;> rfl
    · rw [held_hi g (nI t) (by omega) _ (Nat.le_refl _)]
      simp [q]

/-! BITS: how many, which -/
def pcI (x : Int32) : Nat := fb_ct (bt x) 32
theorem bt_nI {n i : Nat} (hn : n < 2 ^ 32) (hi : i < 32) : bt (nI n) i = n.testBit i := by
  show (BitVec.ofNat 32 n).getLsbD i = _
  rw [BitVec.getLsbD_ofNat]
  simp [hi]
theorem pcI_nI {n : Nat} (hn : n < 2 ^ 32) : pcI (nI n) = fb_ct n.testBit 32 := fb_ct_cong (fun _ hk => bt_nI hn hk)
-- the lowest bit taken off
theorem low_off : ∀ (n : Nat), 0 < n → ∃ l, n.testBit l = true ∧ ∀ k, (n &&& (n - 1)).testBit k = if k = l then false else n.testBit k := by
  intro n
  induction n using Nat.strongRecOn with
  | _ n ih =>
    intro h
    have hmm : ∃ m, n = 2 * m ∨ n = 2 * m + 1 := ⟨n / 2, by omega⟩
    rcases hmm with ⟨m, hm | hm⟩
    · have hm0 : 0 < m := by omega
      obtain ⟨l, h1, h2⟩ := ih m (by omega) hm0
      refine ⟨l + 1, ?_, ?_⟩
      · rw [Nat.testBit_succ, show n / 2 = m by omega]; exact h1
      · intro k
        cases k with
        | zero => simp [Nat.testBit_and, hm]
        | succ k =>
          have e := h2 k
          rw [Nat.testBit_and] at e ⊢
          rw [Nat.testBit_succ, Nat.testBit_succ, show n / 2 = m by omega, show (n - 1) / 2 = m - 1 by omega, e]
          by_cases q : k = l <;> simp [q]
    · refine ⟨0, ?_, ?_⟩
      · simp [Nat.testBit_zero, hm]
      · intro k
        cases k with
        | zero => simp [Nat.testBit_and, Nat.testBit_zero, hm]
        | succ k => rw [Nat.testBit_and, Nat.testBit_succ, Nat.testBit_succ, show (n - 1) / 2 = n / 2 by omega]; simp
theorem pc_off {n : Nat} (hn : n < 2 ^ 32) (h : 0 < n) : fb_ct (n &&& (n - 1)).testBit 32 + 1 = fb_ct n.testBit 32 := by
  obtain ⟨l, h1, h2⟩ := low_off n h
  have hl : l < 32 := by
    rcases Nat.lt_or_ge l 32 with q | q
    · exact q
    · have := Nat.testBit_lt_two_pow (x := n) (i := l) (Nat.lt_of_lt_of_le hn (Nat.pow_le_pow_right (by decide) q))
      rw [this] at h1; cases h1
  have e := fb_ct_upd n.testBit false hl
  rw [fb_ct_cong (q := fun k => if k = l then false else n.testBit k) (fun k _ => h2 k)]
  rw [if_pos h1] at e
  simpa using e
theorem pc_zero {n : Nat} (h : n = 0) : fb_ct n.testBit 32 = 0 := fb_ct_zero.mpr (fun k _ => by rw [h]; exact Nat.zero_testBit k)
theorem nI_zero {n : Nat} (hn : n < 2 ^ 32) : nI n = 0 ↔ n = 0 := by
  constructor
  · intro h
    have := congrArg (fun x : Int32 => x.toBitVec.toNat) h
    have e : (nI n).toBitVec.toNat = n := pk_tn hn
    simp only [e] at this
    exact this
  · rintro rfl; rfl
theorem bits_b4 : ∀ (c n fuel : Nat) (v : Int32), n < 2 ^ 32 → fb_ct n.testBit 32 = c → c < fuel → f9_bits_b4 fuel v (nI n) = some (v + nI c) := by
  intro c
  induction c with
  | zero =>
    intro n fuel v hn hc hf
    obtain ⟨f, rfl⟩ : ∃ f, fuel = f + 1 := ⟨fuel - 1, by omega⟩
    have h0 : n = 0 := by
      rcases Nat.eq_zero_or_pos n with h | h
      · exact h
      · have := pc_off hn h; omega
    subst h0
    rw [f9_bits_b4]
    simp [nI]
  | succ c ih =>
    intro n fuel v hn hc hf
    obtain ⟨f, rfl⟩ : ∃ f, fuel = f + 1 := ⟨fuel - 1, by omega⟩
    have hpos : 0 < n := by
      rcases Nat.eq_zero_or_pos n with h | h
      · rw [pc_zero h] at hc; omega
      · exact h
    have hoff := pc_off hn hpos
    rw [f9_bits_b4, if_neg (by rw [nI_zero hn]; omega)]
    have e1 : nI n - 1 = nI (n - 1) := by
      have := nI_pred (n - 1)
      rwa [Nat.sub_add_cancel hpos] at this
    rw [e1, nx_and, ih (n &&& (n - 1)) f _ (Nat.lt_of_le_of_lt Nat.and_le_left hn) (by omega) (by omega)]
    rw [nI_succ]
    congr 1
    rw [Int32.add_assoc, Int32.add_comm 1]
theorem bits_eq (x : Int32) : f9_bits x = some (nI (pcI x)) := by
  obtain ⟨n, hn, rfl⟩ := wb_of32 x
  have h := bits_b4 (fb_ct n.testBit 32) n jN 0 hn rfl (by
    have := fb_ct_le n.testBit 32
    unfold jN; omega)
  rw [pcI_nI hn, f9_bits, h]
  simp

-- Integer.bitCount
theorem ld (a x p y : Nat) (ha : a < 256) (hp : p < 256) : (a + 256 * x) &&& (p + 256 * y) = (a &&& p) + 256 * (x &&& y) := by
  have hap : a &&& p < 2 ^ 8 := Nat.and_lt_two_pow _ hp
  apply Nat.eq_of_testBit_eq
  intro j
  rw [Nat.testBit_and, show a + 256 * x = 2 ^ 8 * x + a by omega, show p + 256 * y = 2 ^ 8 * y + p by omega, show (a &&& p) + 256 * (x &&& y) = 2 ^ 8 * (x &&& y) + (a &&& p) by omega, Nat.testBit_two_pow_mul_add _ ha, Nat.testBit_two_pow_mul_add _ hp, Nat.testBit_two_pow_mul_add _ hap]
  by_cases h : j < 8
  · simp [h, Nat.testBit_and]
  · simp [h, Nat.testBit_and]
def bcT (b : Nat) : Nat := (b / 2) &&& 85
def bcU (b : Nat) : Nat := b - bcT b
def bcW (b : Nat) : Nat := (bcU b &&& 51) + ((bcU b / 4) &&& 51)
def bcP (b : Nat) : Nat := (bcW b + bcW b / 16) &&& 15
theorem bc1 : ∀ b, b < 256 → ∀ e, e < 2 → (b / 2 + 128 * e) &&& 85 = bcT b ∧ bcT b ≤ b ∧ bcT b < 256 := by decide +kernel
theorem bc2 : ∀ b, b < 256 → ∀ e, e < 4 → (bcU b / 4 + 64 * e) &&& 51 = (bcU b / 4) &&& 51 ∧ bcU b < 256 ∧ bcW b < 69 ∧ bcW b % 16 < 5 ∧ (bcU b &&& 51) < 256 := by decide +kernel
theorem bc3 : ∀ b, b < 256 → ∀ e, e < 5 → (bcW b + (bcW b / 16 + 16 * e)) &&& 15 = bcP b ∧ bcP b ≤ 8 ∧ bcP b = fb_ct b.testBit 8 := by decide +kernel
theorem bc_sum {b0 b1 b2 b3 : Nat} (h0 : b0 < 256) (h1 : b1 < 256) (h2 : b2 < 256) (h3 : b3 < 256) : fb_ct (b0 + 256 * (b1 + 256 * (b2 + 256 * b3))).testBit 32 = bcP b0 + (bcP b1 + (bcP b2 + bcP b3)) := by
  have key : ∀ (a x m : Nat), a < 256 → fb_ct (a + 256 * x).testBit (8 + m) = bcP a + fb_ct x.testBit m := by
    intro a x m ha
    rw [fb_ct_split, (bc3 a ha 0 (by decide)).2.2]
    congr 1
    · apply fb_ct_cong
      intro k hk
      rw [show a + 256 * x = 2 ^ 8 * x + a by omega, Nat.testBit_two_pow_mul_add _ ha, if_pos hk]
    · apply fb_ct_cong
      intro k hk
      rw [show a + 256 * x = 2 ^ 8 * x + a by omega, Nat.testBit_two_pow_mul_add _ ha, if_neg (by omega)]
      congr 1; omega
  rw [show 32 = 8 + 24 from rfl, key b0 _ 24 h0, show 24 = 8 + 16 from rfl, key b1 _ 16 h1, show 16 = 8 + 8 from rfl, key b2 _ 8 h2, (bc3 b3 h3 0 (by decide)).2.2]
theorem bc_nat {b0 b1 b2 b3 : Nat} (h0 : b0 < 256) (h1 : b1 < 256) (h2 : b2 < 256) (h3 : b3 < 256) :
    ∃ x1 x2 x3 : Nat, x1 = (b0 + 256 * (b1 + 256 * (b2 + 256 * b3))) - (((b0 + 256 * (b1 + 256 * (b2 + 256 * b3))) / 2) &&& 1431655765) ∧ ((b0 + 256 * (b1 + 256 * (b2 + 256 * b3))) / 2) &&& 1431655765 ≤ (b0 + 256 * (b1 + 256 * (b2 + 256 * b3))) ∧
    x2 = (x1 &&& 858993459) + ((x1 / 4) &&& 858993459) ∧ x3 = (x2 + x2 / 16) &&& 252645135 ∧ x1 < 2 ^ 32 ∧ x2 < 2 ^ 32 ∧ x3 < 2 ^ 30 ∧ ((x3 + x3 / 256) + (x3 + x3 / 256) / 65536) % 64 = bcP b0 + (bcP b1 + (bcP b2 + bcP b3)) := by
  have T0 := bc1 b0 h0 (b1 % 2) (by omega)
  have T1 := bc1 b1 h1 (b2 % 2) (by omega)
  have T2 := bc1 b2 h2 (b3 % 2) (by omega)
  have T3 := bc1 b3 h3 0 (by omega)
  have em : ((b0 + 256 * (b1 + 256 * (b2 + 256 * b3))) / 2) &&& 1431655765 = bcT b0 + 256 * (bcT b1 + 256 * (bcT b2 + 256 * bcT b3)) := by
    rw [show (b0 + 256 * (b1 + 256 * (b2 + 256 * b3))) / 2 = (b0 / 2 + 128 * (b1 % 2)) + 256 * ((b1 / 2 + 128 * (b2 % 2)) + 256 * ((b2 / 2 + 128 * (b3 % 2)) + 256 * (b3 / 2 + 128 * 0))) by omega, show (1431655765 : Nat) = 85 + 256 * (85 + 256 * (85 + 256 * 85)) from rfl, ld _ _ _ _ (by omega) (by decide), ld _ _ _ _ (by omega) (by decide), ld _ _ _ _ (by omega) (by decide), T0.1, T1.1, T2.1, T3.1]
  have ex1 : (b0 + 256 * (b1 + 256 * (b2 + 256 * b3))) - (bcT b0 + 256 * (bcT b1 + 256 * (bcT b2 + 256 * bcT b3))) = bcU b0 + 256 * (bcU b1 + 256 * (bcU b2 + 256 * bcU b3)) := by
    unfold bcU; omega
  have U0 := bc2 b0 h0 (bcU b1 % 4) (by omega)
  have U1 := bc2 b1 h1 (bcU b2 % 4) (by omega)
  have U2 := bc2 b2 h2 (bcU b3 % 4) (by omega)
  have U3 := bc2 b3 h3 0 (by omega)
  have ex2 : ((bcU b0 + 256 * (bcU b1 + 256 * (bcU b2 + 256 * bcU b3))) &&& 858993459) + (((bcU b0 + 256 * (bcU b1 + 256 * (bcU b2 + 256 * bcU b3))) / 4) &&& 858993459) = bcW b0 + 256 * (bcW b1 + 256 * (bcW b2 + 256 * bcW b3)) := by
    rw [show (bcU b0 + 256 * (bcU b1 + 256 * (bcU b2 + 256 * bcU b3))) / 4 = (bcU b0 / 4 + 64 * (bcU b1 % 4)) + 256 * ((bcU b1 / 4 + 64 * (bcU b2 % 4)) + 256 * ((bcU b2 / 4 + 64 * (bcU b3 % 4)) + 256 * (bcU b3 / 4 + 64 * 0))) by omega, show (858993459 : Nat) = 51 + 256 * (51 + 256 * (51 + 256 * 51)) from rfl, ld _ _ _ _ (by omega) (by decide), ld _ _ _ _ (by omega) (by decide), ld _ _ _ _ (by omega) (by decide), ld _ _ _ _ (by omega) (by decide), ld _ _ _ _ (by omega) (by decide), ld _ _ _ _ (by omega) (by decide), U0.1, U1.1, U2.1, U3.1]
    unfold bcW; omega
  have W0 := bc3 b0 h0 (bcW b1 % 16) U1.2.2.2.1
  have W1 := bc3 b1 h1 (bcW b2 % 16) U2.2.2.2.1
  have W2 := bc3 b2 h2 (bcW b3 % 16) U3.2.2.2.1
  have W3 := bc3 b3 h3 0 (by omega)
  have ex3 : ((bcW b0 + 256 * (bcW b1 + 256 * (bcW b2 + 256 * bcW b3))) + (bcW b0 + 256 * (bcW b1 + 256 * (bcW b2 + 256 * bcW b3))) / 16) &&& 252645135 = bcP b0 + 256 * (bcP b1 + 256 * (bcP b2 + 256 * bcP b3)) := by
    rw [show (bcW b0 + 256 * (bcW b1 + 256 * (bcW b2 + 256 * bcW b3))) + (bcW b0 + 256 * (bcW b1 + 256 * (bcW b2 + 256 * bcW b3))) / 16 = (bcW b0 + (bcW b0 / 16 + 16 * (bcW b1 % 16))) + 256 * ((bcW b1 + (bcW b1 / 16 + 16 * (bcW b2 % 16))) + 256 * ((bcW b2 + (bcW b2 / 16 + 16 * (bcW b3 % 16))) + 256 * (bcW b3 + (bcW b3 / 16 + 16 * 0)))) by omega, show (252645135 : Nat) = 15 + 256 * (15 + 256 * (15 + 256 * 15)) from rfl, ld _ _ _ _ (by omega) (by decide), ld _ _ _ _ (by omega) (by decide), ld _ _ _ _ (by omega) (by decide), W0.1, W1.1, W2.1, W3.1]
  refine ⟨_, _, _, rfl, ?_, rfl, rfl, ?_⟩
  · rw [em]; omega
  · rw [em, ex1, ex2, ex3]
    have P0 := W0.2.1
    have P1 := W1.2.1
    have P2 := W2.2.1
    have P3 := W3.2.1
    refine ⟨by omega, by omega, by omega, ?_⟩
    rw [show (bcP b0 + 256 * (bcP b1 + 256 * (bcP b2 + 256 * bcP b3))) / 256 = bcP b1 + 256 * (bcP b2 + 256 * bcP b3) by omega]
    rw [show (bcP b0 + 256 * (bcP b1 + 256 * (bcP b2 + 256 * bcP b3)) + (bcP b1 + 256 * (bcP b2 + 256 * bcP b3))) / 65536 = (bcP b2 + bcP b3) + 256 * bcP b3 by omega]
    omega
theorem ush_nI {n : Nat} (hn : n < 2 ^ 32) (k : Nat) (s : Int32) (hs : ((s.toUInt32 &&& Int32.toUInt32 31).toBitVec % 32).toNat = k) : jushr (nI n) s = nI (n / 2 ^ k) := pk_ushrN hn s k hs
theorem bitCount_eq (x : Int32) : fj6_bitCount_0f7a4 x = some (nI (pcI x)) := by
  obtain ⟨n, hn, rfl⟩ := wb_of32 x
  obtain ⟨b0, b1, b2, b3, h0, h1, h2, h3, e⟩ : ∃ b0 b1 b2 b3 : Nat, b0 < 256 ∧ b1 < 256 ∧ b2 < 256 ∧ b3 < 256 ∧ n = b0 + 256 * (b1 + 256 * (b2 + 256 * b3)) :=
    ⟨n % 256, n / 256 % 256, n / 65536 % 256, n / 16777216, by omega, by omega, by omega, by omega, by omega⟩
  obtain ⟨x1, x2, x3, d1, d1', d2, d3, l1, l2, l3, d4⟩ := bc_nat h0 h1 h2 h3
  rw [← e] at d1 d1'
  have s1 : nI n - (jushr (nI n) 1 &&& 1431655765) = nI x1 := by
    rw [ush_nI hn 1 1 (by decide), show (1431655765 : Int32) = nI 1431655765 from rfl, nx_and, d1]
    exact pk_sub d1'
  have s2 : (nI x1 &&& 858993459) + (jushr (nI x1) 2 &&& 858993459) = nI x2 := by
    rw [ush_nI l1 2 2 (by decide), show (858993459 : Int32) = nI 858993459 from rfl, nx_and, nx_and, nI_add, d2]
  have s3 : (nI x2 + jushr (nI x2) 4) &&& 252645135 = nI x3 := by
    rw [ush_nI l2 4 4 (by decide), show (252645135 : Int32) = nI 252645135 from rfl, nI_add, nx_and, d3]
  have s4 : nI x3 + jushr (nI x3) 8 = nI (x3 + x3 / 256) := by
    rw [ush_nI (by omega) 8 8 (by decide), nI_add]
  have s5 : nI (x3 + x3 / 256) + jushr (nI (x3 + x3 / 256)) 16 = nI (x3 + x3 / 256 + (x3 + x3 / 256) / 65536) := by
    rw [ush_nI (by omega) 16 16 (by decide), nI_add]
  unfold fj6_bitCount_0f7a4
  rw [s1, s2, s3, s4, s5, show (63 : Int32) = nI (2 ^ 6 - 1) from rfl, nx_and, Nat.and_two_pow_sub_one_eq_mod, pcI_nI hn]
  rw [show 2 ^ 6 = 64 from rfl, d4, e, bc_sum h0 h1 h2 h3]
-- single bits
theorem b_one (c : Nat) (hc : c < 32) {i : Nat} (hi : i < 32) : bt ((1 : Int32) <<< (nI c &&& 31)) i = decide (i = c) := by
  rw [b_shl c hc 1 hi]
  have h1 : ∀ j, j < 32 → bt 1 j = decide (j = 0) := by decide +kernel
  rw [h1 _ (by omega)]
  by_cases e : i = c
  · simp [e]
  · by_cases q : c ≤ i
    · simp [e]; omega
    · simp [e, q]
theorem b_and1 (x : Int32) : (x &&& 1) = if bt x 0 then 1 else 0 := by
  apply b_ext
  intro i hi
  have h1 : ∀ j, j < 32 → bt 1 j = decide (j = 0) := by decide +kernel
  rw [b_and, h1 i hi]
  by_cases e : i = 0
  · subst e
    cases bt x 0 <;> simp [h1, b_0]
  · cases h : bt x 0 <;> simp [e, b_0, h1 i hi]
theorem b_sel (x : Int32) (c : Nat) (hc : c < 32) : ((x >>> (nI c &&& 31)) &&& 1) = if bt x c then 1 else 0 := by
  have h := b_sshr c hc x (i := 0) (by decide)
  rw [if_pos (by omega), Nat.add_zero] at h
  rw [b_and1, h]
theorem b_sel0 (x : Int32) (c : Nat) (hc : c < 32) : ((x >>> (nI c &&& 31)) &&& 1) = 0 ↔ bt x c = false := by
  rw [b_sel x c hc]
  cases bt x c <;> simp
theorem b_none (x : Int32) (c : Nat) (hc : c < 32) : (x &&& ((1 : Int32) <<< (nI c &&& 31))) = 0 ↔ bt x c = false := by
  constructor
  · intro h
    have e : bt (x &&& ((1 : Int32) <<< (nI c &&& 31))) c = bt 0 c := by rw [h]
    rw [b_and, b_one c hc hc, b_0] at e
    simpa using e
  · intro h
    apply b_ext
    intro i hi
    rw [b_and, b_one c hc hi, b_0]
    by_cases q : i = c
    · subst q; simp [h]
    · simp [q]
theorem hasBit_eq (x : Int32) (c : Nat) (hc : c < 32) : f9_hasBit x (nI c) = some (if bt x c then 1 else 0) := by
  unfold f9_hasBit
  rw [b_sel x c hc]
  cases bt x c <;> simp

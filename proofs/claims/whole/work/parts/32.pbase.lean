/-! PLACES, SMALL HELPERS -/
theorem jup_self (μ : JMu) (p k : Nat) (v : Int32) : jup μ p k v p k = v := by simp [jup]
theorem jup_row {μ : JMu} {p k : Nat} {v : Int32} {q : Nat} (h : q ≠ p) : jup μ p k v q = μ q := by funext j; simp [jup, h]
theorem jup_col {μ : JMu} {p k : Nat} {v : Int32} {q j : Nat} (h : j ≠ k) : jup μ p k v q j = μ q j := by simp [jup, h]
theorem jup_at (μ : JMu) (p k : Nat) (v : Int32) (j : Nat) : jup μ p k v p j = if j = k then v else μ p j := by simp [jup]
theorem jin_nI {k n : Nat} (h : k < n) (hn : n < 2 ^ 31) : jin (nI k) n = true := by
  unfold jin
  rw [decide_eq_true_eq]
  rintro (q | q)
  · exact nI_pos (Nat.lt_trans h hn) q
  · rw [nI_clamp (Nat.lt_trans h hn)] at q; omega
theorem jin_of {i : Int32} {n : Nat} (h : jin i n = true) (hn : n < 2 ^ 31) : ∃ k, k < n ∧ i = nI k := by
  unfold jin at h
  rw [decide_eq_true_eq] at h
  exact vp_in_of h hn
/-- an int, known from its order against small ones -/
theorem i_rng {x : Int32} {a b : Nat} (h1 : ¬ x < nI a) (h2 : ¬ nI b < x) (hb : b < 2 ^ 31) (hab : a ≤ b) : ∃ k, a ≤ k ∧ k ≤ b ∧ x = nI k := by
  rw [fa_lt, nI_toInt (by omega)] at h1
  rw [fa_lt, nI_toInt hb] at h2
  refine ⟨x.toInt.toNat, by omega, by omega, ?_⟩
  rw [fa_eq, nI_toInt (by omega)]
  omega
-- places of a house
def jH (h : Nat) : Prop := h = 1 ∨ h = 21 ∨ h = 41
def jRow (p n : Nat) : Prop := jO cPl p 3 = true ∧ jrf p 0 = p + 1 ∧ jI cPl (p + 1) = true ∧ jlen (p + 1) = n
def jLaw (p : Nat) : Prop := jO cPl p 1 = true ∧ jrf p 1 = p + 1 ∧ jrf p 2 = p + 3 ∧ jI cPl (p + 3) = true ∧ jlen (p + 3) = 50 ∧ jRow (p + 1) 50
theorem hs_obj {h : Nat} (hh : jH h) : jO cPl h 0 = true := by rcases hh with rfl | rfl | rfl <;> decide +kernel
theorem hs_rf {h : Nat} (hh : jH h) : jrf h 4 = h + 1 ∧ jrf h 5 = h + 8 ∧ jrf h 6 = h + 10 ∧ jrf h 7 = h + 12 ∧ jrf h 8 = h + 16 := by rcases hh with rfl | rfl | rfl <;> decide +kernel
theorem hs_all {h : Nat} (hh : jH h) : jQr cPl (h + 1) 1 = true ∧ jlen (h + 1) = 6 := by rcases hh with rfl | rfl | rfl <;> decide +kernel
theorem hs_el {h : Nat} (hh : jH h) : ∀ k, k < 6 → jel (h + 1) k = some (h + 2 + k) ∧ jO cPl (h + 2 + k) 6 = true := by rcases hh with rfl | rfl | rfl <;> decide +kernel
theorem hs_tape {h : Nat} (hh : jH h) : jRow (h + 8) 50 := by unfold jRow; rcases hh with rfl | rfl | rfl <;> decide +kernel
theorem hs_wait {h : Nat} (hh : jH h) : jRow (h + 10) 20 := by unfold jRow; rcases hh with rfl | rfl | rfl <;> decide +kernel
theorem hs_law0 {h : Nat} (hh : jH h) : jLaw (h + 12) := by unfold jLaw jRow; rcases hh with rfl | rfl | rfl <;> decide +kernel
theorem hs_law1 {h : Nat} (hh : jH h) : jLaw (h + 16) := by unfold jLaw jRow; rcases hh with rfl | rfl | rfl <;> decide +kernel
theorem rs_62 : jRow 62 50 := by unfold jRow; decide +kernel
theorem rs_64 : jRow 64 50 := by unfold jRow; decide +kernel
theorem rs_67 : jRow 67 40 := by unfold jRow; decide +kernel
theorem rs_70 : jRow 70 6 := by unfold jRow; decide +kernel
theorem sh_s : ∀ s, s < 4 → jel 72 s = some (73 + 3 * s) ∧ jO cPl (73 + 3 * s) 4 = true ∧ jrf (73 + 3 * s) 0 = 74 + 3 * s ∧ jO cPl (74 + 3 * s) 3 = true ∧ jrf (74 + 3 * s) 0 = 75 + 3 * s ∧ jI cPl (75 + 3 * s) = true ∧ jlen (75 + 3 * s) = 40 := by decide +kernel
theorem rs_sh {s : Nat} (h : s < 4) : jRow (74 + 3 * s) 40 := by
  obtain ⟨-, -, -, h1, h2, h3, h4⟩ := sh_s s h
  refine ⟨h1, by rw [h2]; omega, ?_, ?_⟩
  · rw [show 74 + 3 * s + 1 = 75 + 3 * s by omega]; exact h3
  · rw [show 74 + 3 * s + 1 = 75 + 3 * s by omega]; exact h4
-- errors
def cErr (c : JMu) (k : Nat) : JMu := jup c 85 k (c 85 k + 1)
def mErr (m : JMu) (k : Nat) : JMu := jup m 90 k (m 90 k + 1)
theorem fail1 (c : JMu) : f8_fail (-1000000001) c = some (-1000000001, cErr c 1) := by
  unfold f8_fail
  rw [show ((-1000000000 : Int32) - (-1000000001)) = 1 by decide]
  rfl
theorem fail2 (c : JMu) : f8_fail (-1000000002) c = some (-1000000002, cErr c 2) := by
  unfold f8_fail
  rw [show ((-1000000000 : Int32) - (-1000000002)) = 2 by decide]
  rfl
theorem fail3 (c : JMu) : f8_fail (-1000000003) c = some (-1000000003, cErr c 3) := by
  unfold f8_fail
  rw [show ((-1000000000 : Int32) - (-1000000003)) = 3 by decide]
  rfl
theorem fail4 (c : JMu) : f8_fail (-1000000004) c = some (-1000000004, cErr c 4) := by
  unfold f8_fail
  rw [show ((-1000000000 : Int32) - (-1000000004)) = 4 by decide]
  rfl
theorem fail5 (c : JMu) : f8_fail (-1000000005) c = some (-1000000005, cErr c 5) := by
  unfold f8_fail
  rw [show ((-1000000000 : Int32) - (-1000000005)) = 5 by decide]
  rfl
theorem find1 (m : JMu) : f9_finding (-1000000001) m = some (-1000000001, mErr m 1) := by
  unfold f9_finding
  rw [show ((-1000000000 : Int32) - (-1000000001)) = 1 by decide]
  rfl
theorem find2 (m : JMu) : f9_finding (-1000000002) m = some (-1000000002, mErr m 2) := by
  unfold f9_finding
  rw [show ((-1000000000 : Int32) - (-1000000002)) = 2 by decide]
  rfl
theorem find3 (m : JMu) : f9_finding (-1000000003) m = some (-1000000003, mErr m 3) := by
  unfold f9_finding
  rw [show ((-1000000000 : Int32) - (-1000000003)) = 3 by decide]
  rfl
theorem find4 (m : JMu) : f9_finding (-1000000004) m = some (-1000000004, mErr m 4) := by
  unfold f9_finding
  rw [show ((-1000000000 : Int32) - (-1000000004)) = 4 by decide]
  rfl
theorem find5 (m : JMu) : f9_finding (-1000000005) m = some (-1000000005, mErr m 5) := by
  unfold f9_finding
  rw [show ((-1000000000 : Int32) - (-1000000005)) = 5 by decide]
  rfl
-- within, isOutside
theorem outside_eq (x a b : Int32) : f8_isOutside x a b = some (if x < a ∨ b < x then 1 else 0) := by
  unfold f8_isOutside
  by_cases h1 : x < a
  · simp [h1]
  · by_cases h2 : x ≤ b
    · have : ¬ b < x := by rw [fa_lt]; rw [fa_le] at h2; omega
      simp [h1, h2, this]
    · have : b < x := fa_of_nle h2
      simp [h1, h2, this]
theorem within_eq (x a b : Int32) : f9_within x a b = some (if x < a ∨ b < x then 0 else 1) := by
  unfold f9_within
  by_cases h1 : x < a
  · simp [h1]
  · by_cases h2 : b < x <;> simp [h1, h2]
/-- a range by small numbers: out, or the number -/
theorem rng (x : Int32) (a b : Nat) (hb : b < 2 ^ 31) (hab : a ≤ b) : (x < nI a ∨ nI b < x) ∨ (¬ (x < nI a ∨ nI b < x) ∧ ∃ k, a ≤ k ∧ k ≤ b ∧ x = nI k) := by
  by_cases h : x < nI a ∨ nI b < x
  · exact Or.inl h
  · refine Or.inr ⟨h, ?_⟩
    rw [not_or] at h
    exact i_rng h.1 h.2 hb hab
theorem isCell_eq (x : Int32) : f9_isCell x = some (if x < 0 ∨ 23 < x then 0 else 1) := by
  unfold f9_isCell; rw [within_eq]; by_cases h : x < 0 ∨ 23 < x <;> simp [h]
theorem isKindM_eq (x : Int32) : f9_isKindM x = some (if x < 0 ∨ 69 < x then 0 else 1) := by
  unfold f9_isKindM; rw [within_eq]; by_cases h : x < 0 ∨ 69 < x <;> simp [h]
theorem isSet_eq (x : Int32) : f9_isSet x = some (if x < 0 ∨ 16777215 < x then 0 else 1) := by
  unfold f9_isSet; rw [within_eq]; by_cases h : x < 0 ∨ 16777215 < x <;> simp [h]
theorem isSheet_eq (x : Int32) : f9_isSheet x = some (if x < 0 ∨ 3 < x then 0 else 1) := by
  unfold f9_isSheet; rw [within_eq]; by_cases h : x < 0 ∨ 3 < x <;> simp [h]
theorem isTenant_eq (x : Int32) (m : JMu) : f9_isTenant x m = some (if x < 0 ∨ m 87 1 - 1 < x then 0 else 1) := by
  unfold f9_isTenant; rw [within_eq]; by_cases h : x < 0 ∨ m 87 1 - 1 < x <;> simp [h]
theorem isNoKind_eq (x : Int32) : f8_isNoKind x = some (if x < 0 ∨ 69 < x then 1 else 0) := by
  unfold f8_isNoKind
  rw [show ((10 : Int32) * 7) = 70 by decide]
  by_cases h1 : x < 0
  · simp [h1]
  · by_cases h2 : x < 70
    · have : ¬ (69 : Int32) < x := by
        rw [fa_lt] at h2 ⊢
        rw [show (69 : Int32).toInt = 69 by decide]; rw [show (70 : Int32).toInt = 70 by decide] at h2; omega
      simp [h1, h2, this]
    · have : (69 : Int32) < x := by
        rw [fa_lt] at h2 ⊢
        rw [show (69 : Int32).toInt = 69 by decide]; rw [show (70 : Int32).toInt = 70 by decide] at h2; omega
      simp [h1, h2, this]
theorem isNoSet_eq (x : Int32) : f8_isNoSet x = some (if x < 0 ∨ 16777215 < x then 1 else 0) := by
  unfold f8_isNoSet
  by_cases h1 : x < 0
  · simp [h1]
  · by_cases h2 : x ≤ 16777215
    · have : ¬ (16777215 : Int32) < x := by rw [fa_lt]; rw [fa_le] at h2; omega
      simp [h1, h2, this]
    · simp [h1, h2, fa_of_nle h2]
theorem isNoUse_eq (x : Int32) : f8_isNoUse x = some (if x < 0 ∨ 1 < x then 1 else 0) := by
  unfold f8_isNoUse
  by_cases h1 : x = 0
  · subst h1; rfl
  · by_cases h2 : x = 1
    · subst h2; rfl
    · have : x < 0 ∨ 1 < x := by
        rw [fa_eq] at h1 h2
        rw [fa_lt, fa_lt]
        rw [show (0 : Int32).toInt = 0 by decide] at h1 ⊢; rw [show (1 : Int32).toInt = 1 by decide] at h2 ⊢; omega
      simp [h1, h2, this]

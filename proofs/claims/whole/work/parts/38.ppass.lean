/-! A NIGHT -/
def wagK (k : Nat) (b : Int32) : Int32 := if k = 1 ∨ k = 4 then 9 else if k = 3 ∨ k = 6 then 2 * b else 5
def sWage (A : Nat → Int32) (t n : Nat) : Int32 :=
  if tL A t &&& sSeen A n = 0 then 0 else if sLook A t n = 0 then 0 else wagK (kd A t) (nI (pcI (tL A t &&& sSeen A n)))
def sEV (A : Nat → Int32) (n t : Nat) : Int32 := if A (6 + 5 * t + 4) = 0 then jmin 9999 (A (6 + 5 * t + 3) + sWage A t n) else A (6 + 5 * t + 3)
def sE (A : Nat → Int32) (n : Nat) : Nat → (Nat → Int32)
  | 0 => A
  | k + 1 => up1 (sE A n k) (6 + 5 * k + 3) (sEV A n k)
theorem sE_ne (A : Nat → Int32) (n : Nat) {j : Nat} : ∀ k, (∀ t, t < k → j ≠ 6 + 5 * t + 3) → sE A n k j = A j
  | 0, _ => rfl
  | k + 1, h => by
    unfold sE
    rw [up1_ne _ _ (h k (by omega))]
    exact sE_ne A n k (fun t ht => h t (by omega))
theorem sE_pu (A : Nat → Int32) (n k t : Nat) (h : k ≤ t) : sE A n k (6 + 5 * t + 3) = A (6 + 5 * t + 3) := sE_ne A n k (fun t' ht' => by omega)
theorem cdL_cong {A B : Nat → Int32} {a : Nat} (h : ∀ j, a ≤ j → A j = B j) : cdL A a = cdL B a := by
  unfold cdL
  rw [h a (by omega)]
  apply List.map_congr_left
  intro j _
  rw [h (a + 1 + j) (by omega)]
theorem sSeen_cong {A B : Nat → Int32} (h2 : A 2 = B 2) (h : ∀ j, 106 ≤ j → A j = B j) (n : Nat) : sSeen A n = sSeen B n := by
  unfold sSeen sG0
  rw [h2, cdL_cong h]
theorem sE_hi (A : Nat → Int32) (n k : Nat) (hk : k ≤ 6) : ∀ j, 106 ≤ j → sE A n k j = A j := fun j hj => sE_ne A n k (fun t ht => by omega)
theorem sSeen_sE (A : Nat → Int32) (n k x : Nat) (hk : k ≤ 6) : sSeen (sE A n k) x = sSeen A x := sSeen_cong (sE_ne A n k (fun t ht => by omega)) (sE_hi A n k hk) x
theorem sLook_sE (A : Nat → Int32) (n k t x : Nat) : sLook (sE A n k) t x = sLook A t x := by
  unfold sLook kd
  rw [sE_ne A n k (fun t' ht' => by omega), sE_ne A n k (fun t' ht' => by omega), sE_ne A n k (fun t' ht' => by omega)]
theorem pcI_le (x : Int32) : pcI x ≤ 32 := fb_ct_le _ _
theorem wag_b (k : Nat) (x : Int32) : 0 ≤ (wagK k (nI (pcI x))).toInt ∧ (wagK k (nI (pcI x))).toInt ≤ 64 := by
  have := pcI_le x
  unfold wagK
  split
  · decide
  · split
    · rw [show (2 : Int32) = nI 2 from rfl, pk_mul, nI_toInt (by omega)]; omega
    · decide
theorem sWage_b (A : Nat → Int32) (t n : Nat) : 0 ≤ (sWage A t n).toInt ∧ (sWage A t n).toInt ≤ 64 := by
  unfold sWage
  split
  · decide
  · split
    · decide
    · exact wag_b _ _
theorem jmin_id {x : Int32} (h : x.toInt ≤ 9999) : jmin 9999 x = x := by
  unfold jmin
  rw [if_neg]
  rw [fa_lt]; show ¬ (_ < (9999 : Int)) → _ <;> skip
  sorry
theorem x : True := trivial

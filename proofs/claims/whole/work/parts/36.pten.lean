/-! WHO LOOKS, OWES, EARNS -/
def undB (k o : Nat) : Bool := k == o || o == 0 || (k == 4 && o == 1) || (k == 5 && o == 2) || (k == 6 && o == 3)
theorem und_c : ∀ k, k < 7 → ∀ o, o < 7 → f8_isUnder (nI k) (nI o) = some (if undB k o then 1 else 0) ∧ f9_isUnder (nI k) (nI o) = some (if undB k o then 1 else 0) := by decide +kernel
theorem isOf_eq {m : JMu} {t k o : Nat} (ht : t < 6) (hk : m 87 (6 + 5 * t) = nI k) (k6 : k ≤ 6) (o6 : o ≤ 6) : f9_isOf (nI t) (nI o) m = some (if undB k o then 1 else 0) := by
  unfold f9_isOf
  rw [ten0 m ht, ob, hk, (und_c k (by omega) o (by omega)).2, ob]
  cases undB k o <;> rfl
def lookK (k : Nat) (mm lease : Int32) (n : Nat) : Int32 :=
  if k = 5 then 0 else if k = 1 ∨ k = 4 then (if 2 < mm then 1 else if jrem (nI n) 3 = mm then 1 else 0)
  else if k = 2 then (if lease &&& sLit (sPh n) = 0 then 0 else 1) else if k = 3 ∨ k = 6 then (if jrem (nI n) 2 = 0 then 1 else 0) else 1
def kd (A : Nat → Int32) (t : Nat) : Nat := (A (6 + 5 * t)).toNatClampNeg
theorem kd_eq {A : Nat → Int32} (g : GA A) {t : Nat} (h : t < nT A) : A (6 + 5 * t) = nI (kd A t) ∧ kd A t ≤ 6 := by
  obtain ⟨k, h1, h2⟩ := g_k g h
  unfold kd; rw [h2, nI_clamp (by omega)]; exact ⟨rfl, h1⟩
theorem k7 {k : Nat} (h : k ≤ 6) : k = 0 ∨ k = 1 ∨ k = 2 ∨ k = 3 ∨ k = 4 ∨ k = 5 ∨ k = 6 := by omega
theorem looksIn_k {p k n : Nat} {c : JMu} (ho : jO cPl p 6 = true) (hk : c p 0 = nI k) (k6 : k ≤ 6) (hn : n < 2 ^ 31) : f6_looksIn p (nI n) c = some (lookK k (c p 1) (c p 2) n) := by
  unfold f6_looksIn lookK
  rw [if_pos ho, hk, show jrem (nI n) 16 = sPh n from rem_nI (d := 16) hn (by omega) (by omega)]
  have l := (lit_c (n % 16) (by omega)).1
  rcases k7 k6 with rfl | rfl | rfl | rfl | rfl | rfl | rfl
  · rfl
  · rw [if_pos (by decide), if_neg (by decide), if_pos (by decide)]; unfold f6_looksIn_b44
    repeat' split
    all_goals rfl
  · rw [if_neg (by decide), if_pos (by decide), if_neg (by decide), if_neg (by decide), if_pos (by decide), show f8_litBy (sPh n) = _ from l, ob]
    repeat' split
    all_goals first
      | rfl
      | contradiction
  · rw [if_neg (by decide), if_neg (by decide), if_pos (by decide), if_neg (by decide), if_neg (by decide), if_neg (by decide), if_pos (by decide)]; unfold f6_looksIn_b91
    split <;> rfl
  · rw [if_neg (by decide), if_neg (by decide), if_neg (by decide), if_pos (by decide), if_neg (by decide), if_pos (by decide)]; unfold f6_looksIn_b44
    repeat' split
    all_goals rfl
  · rfl
  · rw [if_neg (by decide), if_neg (by decide), if_neg (by decide), if_neg (by decide), if_neg (by decide), if_pos (by decide), if_neg (by decide), if_neg (by decide), if_neg (by decide), if_pos (by decide)]; unfold f6_looksIn_b91
    split <;> rfl
def sLook (A : Nat → Int32) (t n : Nat) : Int32 := lookK (kd A t) (A (6 + 5 * t + 1)) (A (6 + 5 * t + 2)) n
theorem looksIn_eq {c : JMu} {h : Nat} {A : Nat → Int32} (hh : jH h) (hc : HC c h A) (g : GA A) {t n : Nat} (ht : t < nT A) (hn : n < 2 ^ 31) : f6_looksIn (h + 2 + t) (nI n) c = some (sLook A t n) := by
  have g2 := (g_n g).2
  obtain ⟨k1, k2⟩ := kd_eq g ht
  rw [looksIn_k (tn_obj hh (by omega)) ((hc.2.2.2.2.1 t 0 ht (by omega)).trans k1) k2 hn, hc.2.2.2.2.1 t 1 ht (by omega), hc.2.2.2.2.1 t 2 ht (by omega)]; rfl
theorem looks_eq {m : JMu} (g : GA (m 87)) {t : Nat} (ht : t < nT (m 87)) : f9_looks (nI t) m = some (sLook (m 87) t (nN (m 87))) := by
  have g2 := (g_n g).2
  obtain ⟨k1, k2⟩ := kd_eq g ht
  have t6 : t < 6 := by omega
  have i1 := isOf_eq t6 k1 k2 (o := 1) (by omega)
  have i2 := isOf_eq t6 k1 k2 (o := 2) (by omega)
  have i3 := isOf_eq t6 k1 k2 (o := 3) (by omega)
  unfold f9_looks sLook
  rw [ten1 m t6, ob, ten0 m t6, ob, show (1 : Int32) = nI 1 from rfl, show (2 : Int32) = nI 2 from rfl, show (3 : Int32) = nI 3 from rfl, show (5 : Int32) = nI 5 from rfl]
  rw [i1, i2, i3, ob, ob, ob, show f9_tenantIs (nI t) (nI 2) m = _ from ten2 m t6, litNow_eq g, ob, ob, k1, (g_0 g).1]
  generalize hk : kd (m 87) t = k at *
  have red : ∀ mm l n, lookK 0 mm l n = 1 ∧ lookK 1 mm l n = (if 2 < mm then 1 else if jrem (nI n) 3 = mm then 1 else 0) ∧ lookK 2 mm l n = (if l &&& sLit (sPh n) = 0 then 0 else 1) ∧ lookK 3 mm l n = (if jrem (nI n) 2 = 0 then 1 else 0) ∧ lookK 4 mm l n = (if 2 < mm then 1 else if jrem (nI n) 3 = mm then 1 else 0) ∧ lookK 5 mm l n = 0 ∧ lookK 6 mm l n = (if jrem (nI n) 2 = 0 then 1 else 0) := fun mm l n => ⟨rfl, rfl, rfl, rfl, rfl, rfl, rfl⟩
  obtain ⟨r0, r1, r2, r3, r4, r5, r6⟩ := red (m 87 (6 + 5 * t + 1)) (m 87 (6 + 5 * t + 2)) (nN (m 87))
  rcases k7 k2 with rfl | rfl | rfl | rfl | rfl | rfl | rfl
  · repeat (first | rw [if_pos (by decide)] | rw [if_neg (by decide)])
    rw [r0]; rfl
  · repeat (first | rw [if_pos (by decide)] | rw [if_neg (by decide)])
    rw [r1]
    repeat' split
    all_goals first
      | rfl
      | contradiction
  · repeat (first | rw [if_pos (by decide)] | rw [if_neg (by decide)])
    rw [r2]
    repeat' split
    all_goals first
      | rfl
      | contradiction
  · repeat (first | rw [if_pos (by decide)] | rw [if_neg (by decide)])
    rw [r3]
    repeat' split
    all_goals first
      | rfl
      | contradiction
  · repeat (first | rw [if_pos (by decide)] | rw [if_neg (by decide)])
    rw [r4]
    repeat' split
    all_goals first
      | rfl
      | contradiction
  · repeat (first | rw [if_pos (by decide)] | rw [if_neg (by decide)])
    rw [r5]
  · repeat (first | rw [if_pos (by decide)] | rw [if_neg (by decide)])
    rw [r6]
    repeat' split
    all_goals first
      | rfl
      | contradiction

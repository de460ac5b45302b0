/-! A NIGHT -/
def wagK (k : Nat) (b : Int32) : Int32 := if k = 1 ∨ k = 4 then 9 else if k = 3 ∨ k = 6 then 2 * b else 5
def sWage (A : Nat → Int32) (t n : Nat) : Int32 :=
  if tL A t &&& sSeen A n = 0 then 0 else if sLook A t n = 0 then 0 else wagK (kd A t) (nI (pcI (tL A t &&& sSeen A n)))
def sEV (A : Nat → Int32) (n t : Nat) : Int32 := if A (6 + 5 * t + 4) = 0 then jmin 9999 (A (6 + 5 * t + 3) + sWage A t n) else A (6 + 5 * t + 3)
def sE (A : Nat → Int32) (n : Nat) : Nat → (Nat → Int32)
  | 0 => A
  | k + 1 => up1 (sE A n k) (6 + 5 * k + 3) (sEV A n k)
theorem sE_ne (A : Nat → Int32) (n : Nat) {j : Nat} : ∀ k, (∀ t, t < k → j ≠ 6 + 5 * t + 3) → sE A n k j = A j
  | 0, _ => rfl
  | k + 1, h => by
    unfold sE
    rw [up1_ne _ _ (h k (by omega))]
    exact sE_ne A n k (fun t ht => h t (by omega))
theorem sE_pu (A : Nat → Int32) (n k t : Nat) (h : k ≤ t) : sE A n k (6 + 5 * t + 3) = A (6 + 5 * t + 3) := sE_ne A n k (fun t' ht' => by omega)
theorem cdL_cong {A B : Nat → Int32} {a : Nat} (h : ∀ j, a ≤ j → A j = B j) : cdL A a = cdL B a := by
  unfold cdL
  rw [h a (by omega)]
  apply List.map_congr_left
  intro j _
  rw [h (a + 1 + j) (by omega)]
theorem sSeen_cong {A B : Nat → Int32} (h2 : A 2 = B 2) (h : ∀ j, 106 ≤ j → A j = B j) (n : Nat) : sSeen A n = sSeen B n := by
  unfold sSeen sG0
  rw [h2, cdL_cong h]
theorem sE_hi (A : Nat → Int32) (n k : Nat) (hk : k ≤ 6) : ∀ j, 106 ≤ j → sE A n k j = A j := fun j hj => sE_ne A n k (fun t ht => by omega)
theorem sSeen_sE (A : Nat → Int32) (n k x : Nat) (hk : k ≤ 6) : sSeen (sE A n k) x = sSeen A x := sSeen_cong (sE_ne A n k (fun t ht => by omega)) (sE_hi A n k hk) x
theorem sLook_sE (A : Nat → Int32) (n k t x : Nat) : sLook (sE A n k) t x = sLook A t x := by
  unfold sLook kd
  rw [sE_ne A n k (fun t' ht' => by omega), sE_ne A n k (fun t' ht' => by omega), sE_ne A n k (fun t' ht' => by omega)]
theorem pcI_le (x : Int32) : pcI x ≤ 32 := fb_ct_le _ _
theorem wag_b (k : Nat) (x : Int32) : 0 ≤ (wagK k (nI (pcI x))).toInt ∧ (wagK k (nI (pcI x))).toInt ≤ 64 := by
  have := pcI_le x
  unfold wagK
  split
  · decide
  · split
    · rw [show (2 : Int32) = nI 2 from rfl, pk_mul, nI_toInt (by omega)]; omega
    · decide
theorem sWage_b (A : Nat → Int32) (t n : Nat) : 0 ≤ (sWage A t n).toInt ∧ (sWage A t n).toInt ≤ 64 := by
  unfold sWage
  split
  · decide
  · split
    · decide
    · exact wag_b _ _
theorem jmin_id {x : Int32} (h : x.toInt ≤ 9999) : jmin 9999 x = x := by
  have z : (9999 : Int32).toInt = 9999 := rfl
  unfold jmin
  by_cases e : x < 9999
  · rw [if_pos e]
  · rw [if_neg e, fa_eq]; rw [fa_lt] at e; omega
theorem jmin_b {x : Int32} (h : -9999 ≤ x.toInt) : -9999 ≤ (jmin 9999 x).toInt ∧ (jmin 9999 x).toInt ≤ 9999 := by
  have z : (9999 : Int32).toInt = 9999 := rfl
  unfold jmin
  by_cases e : x < 9999
  · rw [if_pos e]; rw [fa_lt] at e; omega
  · rw [if_neg e]; omega
theorem sEV_b {A : Nat → Int32} (g : GA A) (n : Nat) {t : Nat} (ht : t < nT A) : -9999 ≤ (sEV A n t).toInt ∧ (sEV A n t).toInt ≤ 9999 := by
  obtain ⟨p1, p2⟩ := g_p g ht
  obtain ⟨w1, w2⟩ := sWage_b A t n
  unfold sEV
  split
  · exact jmin_b (by rw [fb_addI (by omega) (by omega)]; omega)
  · exact ⟨p1, p2⟩
theorem sE_T (A : Nat → Int32) (n k : Nat) : nT (sE A n k) = nT A := by unfold nT; rw [sE_ne A n k (fun t ht => by omega)]
theorem sE_N (A : Nat → Int32) (n k : Nat) : nN (sE A n k) = nN A := by unfold nN; rw [sE_ne A n k (fun t ht => by omega)]
theorem GA_sE {A : Nat → Int32} (g : GA A) (n : Nat) : ∀ k, k ≤ nT A → GA (sE A n k)
  | 0, _ => g
  | k + 1, hk => by
    unfold sE
    exact GA_ten (GA_sE g n k (by omega)) (by rw [sE_T]; omega) (Or.inr (Or.inr (Or.inr (Or.inl ⟨rfl, sEV_b g n (by omega)⟩))))
theorem wages_k {p k : Nat} {c : JMu} {b : Int32} (ho : jO cPl p 6 = true) (hk : c p 0 = nI k) (k6 : k ≤ 6) (k5 : k ≠ 5) : f6_wages p b c = some (wagK k b) := by
  unfold f6_wages
  rw [if_pos ho, hk]
  rcases k7 k6 with rfl | rfl | rfl | rfl | rfl | rfl | rfl
  all_goals (repeat (first | rw [if_pos (by decide)] | rw [if_neg (by decide)]))
  all_goals first
    | rfl
    | contradiction
theorem look5 (mm l : Int32) (n : Nat) : lookK 5 mm l n = 0 := rfl
/-- the class: one earns -/
theorem earnC {c : JMu} {h : Nat} {A : Nat → Int32} (hh : jH h) {n k : Nat} (g : GA A) (hn : nN A = n) (hk : k < nT A) (hc : HC c h (sE A n k)) (he : A (6 + 5 * k + 4) = 0) :
    ∃ c', f6_earn (h + 2 + k) (nI n) (sSeen A n) c = some c' ∧ HC c' h (sE A n (k + 1)) ∧ eH h c c' := by
  have g2 := (g_n g).2
  have gk := GA_sE g n k (by omega)
  have kT : k < nT (sE A n k) := by rw [sE_T]; exact hk
  have n29 := (g_0 g).2
  have hl : c (h + 2 + k) 2 = tL A k := (hc.2.2.2.2.1 k 2 kT (by omega)).trans (sE_ne A n k (fun t ht => by omega))
  have hp : c (h + 2 + k) 3 = A (6 + 5 * k + 3) := (hc.2.2.2.2.1 k 3 kT (by omega)).trans (sE_pu A n k k (by omega))
  have hkd : c (h + 2 + k) 0 = nI (kd A k) := by
    rw [hc.2.2.2.2.1 k 0 kT (by omega), sE_ne A n k (fun t ht => by omega)]; exact (kd_eq g hk).1
  have ho := tn_obj hh (k := k) (by omega)
  have same : sWage A k n = 0 → HC c h (sE A n (k + 1)) := by
    intro w
    have : sE A n (k + 1) = sE A n k := by
      show up1 (sE A n k) (6 + 5 * k + 3) (sEV A n k) = _
      apply up1_same
      rw [sE_pu A n k k (by omega)]
      unfold sEV
      rw [if_pos he, w, add0, jmin_id (g_p g hk).2]
    rw [this]; exact hc
  unfold f6_earn
  rw [if_pos ho, hl]
  by_cases e : tL A k &&& sSeen A n = 0
  · rw [if_pos e]
    exact ⟨c, rfl, same (by unfold sWage; rw [if_pos e]), eH_rf h c⟩
  · rw [if_neg e, looksIn_eq hh hc gk kT (by omega), ob, sLook_sE]
    by_cases e2 : sLook A k n = 0
    · rw [if_pos e2]
      exact ⟨c, rfl, same (by unfold sWage; rw [if_neg e, if_pos e2]), eH_rf h c⟩
    · have k5 : kd A k ≠ 5 := by
        intro q
        apply e2
        unfold sLook
        rw [q]; rfl
      rw [if_neg e2, bitCount_eq, ob, wages_k ho hkd (kd_eq g hk).2 k5, ob, hp]
      have w : sWage A k n = wagK (kd A k) (nI (pcI (tL A k &&& sSeen A n))) := by unfold sWage; rw [if_neg e, if_neg e2]
      rw [← w]
      have ev : jmin 9999 (A (6 + 5 * k + 3) + sWage A k n) = sEV A n k := by unfold sEV; rw [if_pos he]
      rw [ev]
      exact ⟨_, rfl, HC_ten hc gk kT (f := 3) (by omega) _, eH_up c 3 _ (by omega) (by omega)⟩
theorem earnC_loop {h : Nat} {A : Nat → Int32} (hh : jH h) {N : Nat} (g : GA A) (hn : nN A = N) : ∀ d n k c, HC c h (sE A N k) → k + d = nT A → d < n → ∃ c', f0_earnAll_b11 h n (sSeen A N) (nI k) c = some c' ∧ HC c' h (sE A N (nT A)) ∧ eH h c c' := by
  obtain ⟨g1, g2⟩ := g_n g
  intro d
  induction d with
  | zero =>
    intro n k c hc hk hd
    obtain ⟨n, rfl⟩ : ∃ n', n = n' + 1 := ⟨n - 1, by omega⟩
    have hn3 : c h 3 = nI (nT A) := (hc.2.2.2.1.trans (sE_ne A N k (fun t ht => by omega))).trans g1
    obtain rfl : k = nT A := by omega
    refine ⟨c, ?_, hc, eH_rf h c⟩
    unfold f0_earnAll_b11
    rw [hn3, if_pos (by rw [nI_leI (by omega) (by omega)]; omega)]
  | succ d ih =>
    intro n k c hc hk hd
    obtain ⟨n, rfl⟩ : ∃ n', n = n' + 1 := ⟨n - 1, by omega⟩
    have hn3 : c h 3 = nI (nT A) := (hc.2.2.2.1.trans (sE_ne A N k (fun t ht => by omega))).trans g1
    have kT : k < nT (sE A N k) := by rw [sE_T]; omega
    have he : c (h + 2 + k) 4 = A (6 + 5 * k + 4) := (hc.2.2.2.2.1 k 4 kT (by omega)).trans (sE_ne A N k (fun t ht => by omega))
    have h0 : c h 0 = nI N := by rw [hc.1, sE_ne A N k (fun t ht => by omega), (g_0 g).1, hn]
    unfold f0_earnAll_b11
    rw [hn3, if_neg (by rw [nI_leI (by omega) (by omega)]; omega), find_in hh hn3 g2 (t := k) (by omega), ob]
    show ∃ c', (if jO cPl (h + 2 + k) 6 = true then _ else _) = some c' ∧ _
    rw [if_pos (tn_obj hh (by omega)), he, nI_1, h0]
    by_cases e : A (6 + 5 * k + 4) = 0
    · rw [if_pos e]
      obtain ⟨c1, r, h1, h2⟩ := earnC hh g hn (k := k) (by omega) hc e
      rw [r, ob]
      obtain ⟨c2, r2, h3, h4⟩ := ih n (k + 1) c1 h1 (by omega) (by omega)
      exact ⟨c2, r2, h3, eH_tr h2 h4⟩
    · rw [if_neg e]
      apply ih n (k + 1) c _ (by omega) (by omega)
      have : sE A N (k + 1) = sE A N k := by
        show up1 (sE A N k) (6 + 5 * k + 3) (sEV A N k) = _
        apply up1_same
        rw [sE_pu A N k k (by omega)]
        unfold sEV
        rw [if_neg e]
      rw [this]; exact hc
theorem earnAll_eq {c : JMu} {h : Nat} {A : Nat → Int32} (hh : jH h) (hc : HC c h A) (g : GA A) : ∃ c', f0_earnAll h c = some c' ∧ HC c' h (sE A (nN A) (nT A)) ∧ eH h c c' := by
  obtain ⟨g0, g0b⟩ := g_0 g
  obtain ⟨c1, r, h1, h2⟩ := seenIn_eq hh hc g (n := nN A) (by omega)
  obtain ⟨c2, r2, h3, h4⟩ := earnC_loop hh (N := nN A) g rfl (nT A) jN 0 c1 h1 (by omega) (by have := (g_n g).2; unfold jN; omega)
  refine ⟨c2, ?_, h3, eH_tr h2 h4⟩
  unfold f0_earnAll
  rw [if_pos (hs_obj hh), hc.1, g0, r, ob]
  exact r2
/-- the check: one earns -/
theorem earnsM {m : JMu} (g : GA (m 87)) {t : Nat} (ht : t < nT (m 87)) : ∃ m', f9_earns (nI t) m = some (sWage (m 87) t (nN (m 87)), m') ∧ m' 87 = m 87 ∧ eM m m' := by
  have g2 := (g_n g).2
  obtain ⟨m', r, h1, h2⟩ := seenNow_eq g
  refine ⟨m', ?_, h1, h2⟩
  obtain ⟨k1, k2⟩ := kd_eq g ht
  have k1' : m' 87 (6 + 5 * t) = nI (kd (m 87) t) := by rw [h1]; exact k1
  have i1 := isOf_eq (m := m') (t := t) (by omega) k1' k2 (o := 1) (by omega)
  have i3 := isOf_eq (m := m') (t := t) (by omega) k1' k2 (o := 3) (by omega)
  unfold f9_earns sWage
  rw [ten2 m (by omega), ob, r, ob, show m 87 (6 + 5 * t + 2) = tL (m 87) t from rfl]
  dsimp only
  by_cases e : tL (m 87) t &&& sSeen (m 87) (nN (m 87)) = 0
  · rw [if_pos e, if_pos e]
  · rw [if_neg e, if_neg e, looks_eq (by rw [h1]; exact g) (by rw [h1]; exact ht), ob, h1]
    by_cases e2 : sLook (m 87) t (nN (m 87)) = 0
    · rw [if_pos e2, if_pos e2]
    · rw [if_neg e2, if_neg e2, show (1 : Int32) = nI 1 from rfl, show (3 : Int32) = nI 3 from rfl, i1, i3, ob, ob, bits_eq, ob]
      have k5 : kd (m 87) t ≠ 5 := by
        intro q
        apply e2
        unfold sLook
        rw [q]; rfl
      generalize hkk : kd (m 87) t = kk at *
      rcases k7 k2 with rfl | rfl | rfl | rfl | rfl | rfl | rfl
      all_goals (repeat (first | rw [if_pos (by decide)] | rw [if_neg (by decide)]))
      all_goals first
        | rfl
        | contradiction
theorem sWage_sE (A : Nat → Int32) (n k t x : Nat) (hk : k ≤ 6) : sWage (sE A n k) t x = sWage A t x := by
  unfold sWage tL kd
  rw [sSeen_sE A n k x hk, sLook_sE, sE_ne A n k (fun t' ht' => by omega), sE_ne A n k (fun t' ht' => by omega)]
theorem isOut_eq {m : JMu} (g : GA (m 87)) {t : Nat} (ht : t < nT (m 87)) : f9_isOut (nI t) m = some (m 87 (6 + 5 * t + 4)) := by
  have g2 := (g_n g).2
  unfold f9_isOut
  rw [ten4 m (by omega), ob]
  rcases g_e g ht with e | e
  · rw [e]; rfl
  · rw [e]; rfl
theorem at3 (t : Nat) : f9_at (nI t) 3 = some (nI (6 + 5 * t + 3)) := at_eq t 3
theorem at2 (t : Nat) : f9_at (nI t) 2 = some (nI (6 + 5 * t + 2)) := at_eq t 2
theorem at4 (t : Nat) : f9_at (nI t) 4 = some (nI (6 + 5 * t + 4)) := at_eq t 4
theorem night_loop1 {A : Nat → Int32} {N : Nat} (g : GA A) (hN : nN A = N) : ∀ d n k (m : JMu), m 87 = sE A N k → k + d = nT A → d < n → ∃ m', m' 87 = sE A N (nT A) ∧ eM m m' ∧ f9_night_b2 n (nI k) m = f9_night_b75 jN 0 (jup m' 87 0 (nI (N + 1))) := by
  obtain ⟨g1, g2⟩ := g_n g
  intro d
  induction d with
  | zero =>
    intro n k m hm hk hd
    obtain ⟨n, rfl⟩ : ∃ n', n = n' + 1 := ⟨n - 1, by omega⟩
    obtain rfl : k = nT A := by omega
    refine ⟨m, hm, eM_rf m, ?_⟩
    have e1 : m 87 1 = nI (nT A) := by rw [hm, sE_ne A N _ (fun t ht => by omega)]; exact g1
    have e0 : m 87 0 = nI N := by rw [hm, sE_ne A N _ (fun t ht => by omega), (g_0 g).1, hN]
    unfold f9_night_b2
    rw [e1, if_pos (by rw [nI_leI (by omega) (by omega)]; omega), e0, nI_1]
  | succ d ih =>
    intro n k m hm hk hd
    obtain ⟨n, rfl⟩ : ∃ n', n = n' + 1 := ⟨n - 1, by omega⟩
    have gk : GA (m 87) := by rw [hm]; exact GA_sE g N k (by omega)
    have e1 : m 87 1 = nI (nT A) := by rw [hm, sE_ne A N _ (fun t ht => by omega)]; exact g1
    have kT : k < nT (m 87) := by rw [hm, sE_T]; omega
    have e4 : m 87 (6 + 5 * k + 4) = A (6 + 5 * k + 4) := by rw [hm, sE_ne A N _ (fun t ht => by omega)]
    have e3 : m 87 (6 + 5 * k + 3) = A (6 + 5 * k + 3) := by rw [hm, sE_pu A N k k (by omega)]
    unfold f9_night_b2
    rw [e1, if_neg (by rw [nI_leI (by omega) (by omega)]; omega), at3, ob, isOut_eq gk kT, ob, e4]
    have st : ∀ (m1 : JMu) (v : Int32), m1 87 = m 87 → f9_night_b56 (f9_night_b2 n) (nI k) v (nI (6 + 5 * k + 3)) m1 = f9_night_b2 n (nI (k + 1)) (jup m1 87 (6 + 5 * k + 3) v) := by
      intro m1 v _
      unfold f9_night_b56
      rw [if_pos (jin_nI (by omega) (by omega)), nI_clamp (by omega), nI_1]
    have nx : ∀ (m1 : JMu), m1 87 = m 87 → eM m m1 → ∃ m', m' 87 = sE A N (nT A) ∧ eM m m' ∧ f9_night_b2 n (nI (k + 1)) (jup m1 87 (6 + 5 * k + 3) (sEV A N k)) = f9_night_b75 jN 0 (jup m' 87 0 (nI (N + 1))) := by
      intro m1 h1 h2
      obtain ⟨m2, a1, a2, a3⟩ := ih n (k + 1) (jup m1 87 (6 + 5 * k + 3) (sEV A N k)) (by rw [jup_rs, h1, hm]; rfl) (by omega) (by omega)
      exact ⟨m2, a1, eM_tr (eM_tr h2 (eM_up _ _ _)) a2, a3⟩
    by_cases e : A (6 + 5 * k + 4) = 0
    · rw [if_pos e, ten3 m (by omega), ob, e3]
      obtain ⟨m1, r, h1, h2⟩ := earnsM gk kT
      rw [r, ob, st m1 _ h1]
      have : sEV A N k = jmin 9999 (A (6 + 5 * k + 3) + sWage (m 87) k (nN (m 87))) := by
        unfold sEV
        rw [if_pos e, hm, sE_N, hN, sWage_sE A N k k N (by omega)]
      rw [← this]
      exact nx m1 h1 h2
    · rw [if_neg e, ten3 m (by omega), ob, e3, st m _ rfl]
      have : sEV A N k = A (6 + 5 * k + 3) := by unfold sEV; rw [if_neg e]
      rw [← this]
      exact nx m rfl (eM_rf m)
-- paying
def payT (B : Nat → Int32) (t : Nat) : Nat → Int32 :=
  if B (6 + 5 * t + 4) = 0 then
    (if 0 ≤ jmax (-9999) (B (6 + 5 * t + 3) - sOwes B t) then up1 B (6 + 5 * t + 3) (jmax (-9999) (B (6 + 5 * t + 3) - sOwes B t))
    else up1 (up1 (up1 B (6 + 5 * t + 3) (jmax (-9999) (B (6 + 5 * t + 3) - sOwes B t))) (6 + 5 * t + 4) 1) (6 + 5 * t + 2) 0)
  else B
def sP (A : Nat → Int32) : Nat → (Nat → Int32)
  | 0 => A
  | k + 1 => payT (sP A k) k
theorem jmax_b {x : Int32} (h : x.toInt ≤ 9999) : -9999 ≤ (jmax (-9999) x).toInt ∧ (jmax (-9999) x).toInt ≤ 9999 := by
  have z : (-9999 : Int32).toInt = -9999 := rfl
  unfold jmax
  by_cases e : -9999 < x
  · rw [if_pos e]; rw [fa_lt] at e; omega
  · rw [if_neg e]; omega
theorem GA_pay {B : Nat → Int32} (g : GA B) {t : Nat} (ht : t < nT B) : GA (payT B t) ∧ nT (payT B t) = nT B ∧ payT B t 0 = B 0 := by
  have g2 := (g_n g).2
  obtain ⟨p1, p2⟩ := g_p g ht
  obtain ⟨o1, o2⟩ := sOwes_b g ht
  have vb := jmax_b (x := B (6 + 5 * t + 3) - sOwes B t) (by rw [fb_subI (by omega) (by omega)]; omega)
  have ga : GA (up1 B (6 + 5 * t + 3) (jmax (-9999) (B (6 + 5 * t + 3) - sOwes B t))) := GA_ten g ht (Or.inr (Or.inr (Or.inr (Or.inl ⟨rfl, vb⟩))))
  unfold payT
  split
  · split
    · exact ⟨ga, nT_up _ _ (by omega), up1_ne _ _ (by omega)⟩
    · refine ⟨?_, ?_, ?_⟩
      · refine GA_ten (f := 2) (GA_ten (f := 4) ga ?_ (Or.inr (Or.inr (Or.inr (Or.inr ⟨rfl, Or.inr rfl⟩))))) ?_ (Or.inr (Or.inr (Or.inl ⟨rfl, 0, by omega, rfl⟩)))
        · rw [nT_up _ _ (by omega)]; exact ht
        · rw [nT_up _ _ (by omega), nT_up _ _ (by omega)]; exact ht
      · rw [nT_up _ _ (by omega), nT_up _ _ (by omega), nT_up _ _ (by omega)]
      · rw [up1_ne _ _ (by omega), up1_ne _ _ (by omega), up1_ne _ _ (by omega)]
  · exact ⟨g, rfl, rfl⟩
theorem GA_sP {A : Nat → Int32} (g : GA A) : ∀ k, k ≤ nT A → GA (sP A k) ∧ nT (sP A k) = nT A ∧ sP A k 0 = A 0
  | 0, _ => ⟨g, rfl, rfl⟩
  | k + 1, hk => by
    obtain ⟨h1, h2, h3⟩ := GA_sP g k (by omega)
    obtain ⟨q1, q2, q3⟩ := GA_pay h1 (t := k) (by omega)
    exact ⟨q1, q2.trans h2, q3.trans h3⟩
theorem payC_loop {h : Nat} {A : Nat → Int32} (hh : jH h) (g : GA A) : ∀ d n k c, HC c h (sP A k) → k + d = nT A → d < n → ∃ c', f0_payAll_b2 h n (nI k) c = some c' ∧ HC c' h (sP A (nT A)) ∧ eH h c c' := by
  obtain ⟨g1, g2⟩ := g_n g
  intro d
  induction d with
  | zero =>
    intro n k c hc hk hd
    obtain ⟨n, rfl⟩ : ∃ n', n = n' + 1 := ⟨n - 1, by omega⟩
    obtain rfl : k = nT A := by omega
    obtain ⟨gk, tk, _⟩ := GA_sP g (nT A) (by omega)
    have hn3 : c h 3 = nI (nT A) := by rw [hc.2.2.2.1, (g_n gk).1, tk]
    refine ⟨c, ?_, hc, eH_rf h c⟩
    unfold f0_payAll_b2
    rw [hn3, if_pos (by rw [nI_leI (by omega) (by omega)]; omega)]
  | succ d ih =>
    intro n k c hc hk hd
    obtain ⟨n, rfl⟩ : ∃ n', n = n' + 1 := ⟨n - 1, by omega⟩
    obtain ⟨gk, tk, _⟩ := GA_sP g k (by omega)
    have hn3 : c h 3 = nI (nT A) := by rw [hc.2.2.2.1, (g_n gk).1, tk]
    have kT : k < nT (sP A k) := by omega
    have he : c (h + 2 + k) 4 = sP A k (6 + 5 * k + 4) := hc.2.2.2.2.1 k 4 kT (by omega)
    unfold f0_payAll_b2
    rw [hn3, if_neg (by rw [nI_leI (by omega) (by omega)]; omega), find_in hh hn3 g2 (t := k) (by omega), ob]
    show ∃ c', (if jO cPl (h + 2 + k) 6 = true then _ else _) = some c' ∧ _
    rw [if_pos (tn_obj hh (by omega)), he, nI_1]
    by_cases e : sP A k (6 + 5 * k + 4) = 0
    · rw [if_pos e]
      obtain ⟨c1, r, r1, r2, h1, h2⟩ := owesC_eq hh hc gk kT
      have hp : c1 (h + 2 + k) 3 = sP A k (6 + 5 * k + 3) := h1.2.2.2.2.1 k 3 kT (by omega)
      rw [show c (h + 2 + k) 2 = tL (sP A k) k from hc.2.2.2.2.1 k 2 kT (by omega), r, ob]
      dsimp only
      rw [r1, ob, r2, ob]
      unfold f6_pay
      rw [if_pos (tn_obj hh (by omega)), jup_self, hp]
      have pT : sP A (k + 1) = payT (sP A k) k := rfl
      by_cases e2 : 0 ≤ jmax (-9999) (sP A k (6 + 5 * k + 3) - sOwes (sP A k) k)
      · rw [if_pos e2, ob]
        obtain ⟨c2, r3, h3, h4⟩ := ih n (k + 1) (jup c1 (h + 2 + k) 3 (jmax (-9999) (sP A k (6 + 5 * k + 3) - sOwes (sP A k) k)))
          (by rw [pT]; unfold payT; rw [if_pos e, if_pos e2]; exact HC_ten h1 gk kT (f := 3) (by omega) _) (by omega) (by omega)
        exact ⟨c2, r3, h3, eH_tr (eH_tr h2 (eH_up _ _ _ (by omega) (by omega))) h4⟩
      · rw [if_neg e2, ob]
        have vb := jmax_b (x := sP A k (6 + 5 * k + 3) - sOwes (sP A k) k) (by
          obtain ⟨p1, p2⟩ := g_p gk kT
          obtain ⟨o1, o2⟩ := sOwes_b gk kT
          rw [fb_subI (by omega) (by omega)]; omega)
        have ga : GA (up1 (sP A k) (6 + 5 * k + 3) (jmax (-9999) (sP A k (6 + 5 * k + 3) - sOwes (sP A k) k))) := GA_ten gk kT (Or.inr (Or.inr (Or.inr (Or.inl ⟨rfl, vb⟩))))
        have gb := GA_ten (f := 4) (v := 1) ga (t := k) (by rw [nT_up _ _ (by omega)]; exact kT) (Or.inr (Or.inr (Or.inr (Or.inr ⟨rfl, Or.inr rfl⟩))))
        obtain ⟨c2, r3, h3, h4⟩ := ih n (k + 1) (jup (jup (jup c1 (h + 2 + k) 3 (jmax (-9999) (sP A k (6 + 5 * k + 3) - sOwes (sP A k) k))) (h + 2 + k) 4 1) (h + 2 + k) 2 0)
          (by
            rw [pT]; unfold payT; rw [if_pos e, if_neg e2]
            refine HC_ten (f := 2) (HC_ten (f := 4) (HC_ten h1 gk kT (f := 3) (by omega) _) ga ?_ (by omega) _) gb ?_ (by omega) _
            · rw [nT_up _ _ (by omega)]; exact kT
            · rw [nT_up _ _ (by omega), nT_up _ _ (by omega)]; exact kT) (by omega) (by omega)
        exact ⟨c2, r3, h3, eH_tr (eH_tr (eH_tr (eH_tr h2 (eH_up _ _ _ (by omega) (by omega))) (eH_up _ _ _ (by omega) (by omega))) (eH_up _ _ _ (by omega) (by omega))) h4⟩
    · rw [if_neg e]
      apply ih n (k + 1) c _ (by omega) (by omega)
      show HC c h (payT (sP A k) k)
      unfold payT
      rw [if_neg e]; exact hc
theorem pays_eq {m : JMu} (g : GA (m 87)) {t : Nat} (ht : t < nT (m 87)) (he : m 87 (6 + 5 * t + 4) = 0) : ∃ m', f9_pays (nI t) m = some m' ∧ m' 87 = payT (m 87) t ∧ eM m m' := by
  have g2 := (g_n g).2
  obtain ⟨m1, r, h1, h2⟩ := owesM_eq g ht
  unfold f9_pays payT
  rw [at3, ob, ten3 m (by omega), ob, r, ob]
  dsimp only
  rw [if_pos (jin_nI (by omega) (by omega)), nI_clamp (by omega), ten3 _ (by omega), ob, jup_rs, h1, up1_self, if_pos he]
  by_cases e : 0 ≤ jmax (-9999) (m 87 (6 + 5 * t + 3) - sOwes (m 87) t)
  · rw [if_pos e, if_pos e]
    exact ⟨_, rfl, by rw [jup_rs, h1], eM_tr h2 (eM_up _ _ _)⟩
  · rw [if_neg e, if_neg e, at4, ob, if_pos (jin_nI (by omega) (by omega)), at2, ob, if_pos (jin_nI (by omega) (by omega)), nI_clamp (by omega), nI_clamp (by omega)]
    exact ⟨_, rfl, by rw [jup_rs, jup_rs, jup_rs, h1], eM_tr (eM_tr (eM_tr h2 (eM_up _ _ _)) (eM_up _ _ _)) (eM_up _ _ _)⟩
theorem payM_loop {A : Nat → Int32} (g : GA A) (h4 : nN A % 4 = 0) : ∀ d n k (m : JMu), m 87 = sP A k → k + d = nT A → d < n → ∃ m', f9_night_b75 n (nI k) m = some m' ∧ m' 87 = sP A (nT A) ∧ eM m m' := by
  obtain ⟨g1, g2⟩ := g_n g
  intro d
  induction d with
  | zero =>
    intro n k m hm hk hd
    obtain ⟨n, rfl⟩ : ∃ n', n = n' + 1 := ⟨n - 1, by omega⟩
    obtain rfl : k = nT A := by omega
    obtain ⟨gk, tk, _⟩ := GA_sP g (nT A) (by omega)
    have e1 : m 87 1 = nI (nT A) := by rw [hm, (g_n gk).1, tk]
    refine ⟨m, ?_, hm, eM_rf m⟩
    unfold f9_night_b75
    rw [e1, if_pos (by rw [nI_leI (by omega) (by omega)]; omega)]
  | succ d ih =>
    intro n k m hm hk hd
    obtain ⟨n, rfl⟩ : ∃ n', n = n' + 1 := ⟨n - 1, by omega⟩
    obtain ⟨gk, tk, t0⟩ := GA_sP g k (by omega)
    have e1 : m 87 1 = nI (nT A) := by rw [hm, (g_n gk).1, tk]
    have e0 : m 87 0 = nI (nN A) := by rw [hm, t0]; exact (g_0 g).1
    have gm : GA (m 87) := by rw [hm]; exact gk
    have kT : k < nT (m 87) := by rw [hm, tk]; omega
    unfold f9_night_b75
    rw [e1, if_neg (by rw [nI_leI (by omega) (by omega)]; omega), e0, show jrem (nI (nN A)) 4 = nI (nN A % 4) from rem_nI (d := 4) (by have := (g_0 g).2; omega) (by omega) (by omega), h4, if_pos (by decide), isOut_eq gm kT, ob, nI_1]
    by_cases e : m 87 (6 + 5 * k + 4) = 0
    · rw [if_pos e]
      obtain ⟨m1, r, h1, h2⟩ := pays_eq gm kT e
      rw [r, ob]
      obtain ⟨m2, r2, h3, h5⟩ := ih n (k + 1) m1 (by rw [h1, hm]; rfl) (by omega) (by omega)
      exact ⟨m2, r2, h3, eM_tr h2 h5⟩
    · rw [if_neg e]
      apply ih n (k + 1) m _ (by omega) (by omega)
      show m 87 = payT (sP A k) k
      unfold payT
      rw [← hm, if_neg e]
theorem payM_not {A : Nat → Int32} (g : GA A) (h4 : ¬ nN A % 4 = 0) {m : JMu} (hm : m 87 = A) : f9_night_b75 jN 0 m = some m := by
  obtain ⟨g1, g2⟩ := g_n g
  show f9_night_b75 (999 + 1) 0 m = some m
  unfold f9_night_b75
  rw [hm, (g_0 g).1, show jrem (nI (nN A)) 4 = nI (nN A % 4) from rem_nI (d := 4) (by have := (g_0 g).2; omega) (by omega) (by omega)]
  by_cases e : A 1 ≤ 0
  · rw [if_pos e]
  · rw [if_neg e, if_neg (nI_ne0 (by omega) (by omega))]
def sN1 (A : Nat → Int32) : Nat → Int32 := up1 (sE A (nN A) (nT A)) 0 (nI (nN A + 1))
def sNight (A : Nat → Int32) : Nat → Int32 := if (nN A + 1) % 4 = 0 then sP (sN1 A) (nT A) else sN1 A
theorem GA_sN1 {A : Nat → Int32} (g : GA A) (hb : nN A + 1 < 2 ^ 29) : GA (sN1 A) ∧ nT (sN1 A) = nT A ∧ nN (sN1 A) = nN A + 1 := by
  refine ⟨GA_hd (GA_sE g _ _ (by omega)) (Or.inl ⟨rfl, _, hb, rfl⟩), ?_, ?_⟩
  · unfold sN1; rw [nT_up _ _ (by omega), sE_T]
  · unfold sN1 nN; rw [up1_self, nI_clamp (by show nN A + 1 < _; omega)]
theorem GA_sNight {A : Nat → Int32} (g : GA A) (hb : nN A + 1 < 2 ^ 29) : GA (sNight A) ∧ nT (sNight A) = nT A ∧ nN (sNight A) = nN A + 1 := by
  obtain ⟨h1, h2, h3⟩ := GA_sN1 g hb
  unfold sNight
  split
  · obtain ⟨q1, q2, q3⟩ := GA_sP h1 (nT A) (by omega)
    exact ⟨q1, q2.trans h2, by rw [← h3]; unfold nN; rw [q3]⟩
  · exact ⟨h1, h2, h3⟩
theorem nightM_eq {m : JMu} (g : GA (m 87)) (hb : nN (m 87) + 1 < 2 ^ 29) : ∃ m', f9_night m = some m' ∧ m' 87 = sNight (m 87) ∧ eM m m' := by
  obtain ⟨h1, h2, h3⟩ := GA_sN1 g hb
  have g2 := (g_n g).2
  obtain ⟨m1, a1, a2, a3⟩ := night_loop1 g rfl (nT (m 87)) jN 0 m rfl (by omega) (by unfold jN; omega)
  have e : (jup m1 87 0 (nI (nN (m 87) + 1))) 87 = sN1 (m 87) := by rw [jup_rs, a1]; rfl
  unfold f9_night
  show ∃ m', f9_night_b2 jN (nI 0) m = _ ∧ _
  rw [a3]
  unfold sNight
  by_cases h4 : (nN (m 87) + 1) % 4 = 0
  · rw [if_pos h4]
    obtain ⟨m2, r, b1, b2⟩ := payM_loop h1 (by rw [h3]; exact h4) (nT (m 87)) jN 0 (jup m1 87 0 (nI (nN (m 87) + 1))) e (by omega) (by unfold jN; omega)
    refine ⟨m2, r, by rw [b1, h2], eM_tr (eM_tr a2 (eM_up _ _ _)) b2⟩
  · rw [if_neg h4]
    exact ⟨_, payM_not h1 (by rw [h3]; exact h4) e, e, eM_tr a2 (eM_up _ _ _)⟩
def sPass (A : Nat → Int32) : Nat → (Nat → Int32)
  | 0 => A
  | k + 1 => sNight (sPass A k)
theorem GA_sPass {A : Nat → Int32} (g : GA A) : ∀ k, nN A + k < 2 ^ 29 → GA (sPass A k) ∧ nT (sPass A k) = nT A ∧ nN (sPass A k) = nN A + k
  | 0, _ => ⟨g, rfl, rfl⟩
  | k + 1, h => by
    obtain ⟨h1, h2, h3⟩ := GA_sPass g k (by omega)
    obtain ⟨q1, q2, q3⟩ := GA_sNight h1 (by omega)
    exact ⟨q1, q2.trans h2, by rw [show sPass A (k + 1) = sNight (sPass A k) from rfl, q3, h3]; omega⟩
theorem passM_loop {A : Nat → Int32} {N : Nat} (g : GA A) (hb : nN A + N < 2 ^ 29) : ∀ d n k (m : JMu), m 87 = sPass A k → k + d = N → d < n → ∃ m', f9_pass_b2 n (nI N) (nI k) m = some m' ∧ m' 87 = sPass A N ∧ eM m m' := by
  intro d
  induction d with
  | zero =>
    intro n k m hm hk hd
    obtain ⟨n, rfl⟩ : ∃ n', n = n' + 1 := ⟨n - 1, by omega⟩
    obtain rfl : k = N := by omega
    refine ⟨m, ?_, hm, eM_rf m⟩
    unfold f9_pass_b2
    rw [if_pos (by rw [nI_leI (by omega) (by omega)]; omega)]
  | succ d ih =>
    intro n k m hm hk hd
    obtain ⟨n, rfl⟩ : ∃ n', n = n' + 1 := ⟨n - 1, by omega⟩
    obtain ⟨gk, tk, nk⟩ := GA_sPass g k (by omega)
    unfold f9_pass_b2
    rw [if_neg (by rw [nI_leI (by omega) (by omega)]; omega), nI_1]
    obtain ⟨m1, r, h1, h2⟩ := nightM_eq (m := m) (by rw [hm]; exact gk) (by rw [hm, nk]; omega)
    rw [r, ob]
    obtain ⟨m2, r2, h3, h4⟩ := ih n (k + 1) m1 (by rw [h1, hm]; rfl) (by omega) (by omega)
    exact ⟨m2, r2, h3, eM_tr h2 h4⟩
theorem passM_eq {m : JMu} (g : GA (m 87)) {N : Nat} (hN : N ≤ 900) (hb : nN (m 87) + N < 2 ^ 29) : ∃ m', f9_pass (nI N) m = some m' ∧ m' 87 = sPass (m 87) N ∧ eM m m' :=
  passM_loop g hb N jN 0 m rfl (by omega) (by unfold jN; omega)
theorem passC_loop {h : Nat} {A : Nat → Int32} {N : Nat} (hh : jH h) (g : GA A) (hb : nN A + N < 2 ^ 29) : ∀ d n k (c : JMu), HC c h (sPass A k) → k + d = N → d < n → ∃ c', f0_passNights_b2 h n (nI N) (nI k) c = some c' ∧ HC c' h (sPass A N) ∧ eH h c c' := by
  intro d
  induction d with
  | zero =>
    intro n k c hc hk hd
    obtain ⟨n, rfl⟩ : ∃ n', n = n' + 1 := ⟨n - 1, by omega⟩
    obtain rfl : k = N := by omega
    refine ⟨c, ?_, hc, eH_rf h c⟩
    unfold f0_passNights_b2
    rw [if_pos (by rw [nI_leI (by omega) (by omega)]; omega)]
  | succ d ih =>
    intro n k c hc hk hd
    obtain ⟨n, rfl⟩ : ∃ n', n = n' + 1 := ⟨n - 1, by omega⟩
    obtain ⟨gk, tk, nk⟩ := GA_sPass g k (by omega)
    obtain ⟨s1, s2, s3⟩ := GA_sN1 gk (by omega)
    obtain ⟨c1, r, h1, h2⟩ := earnAll_eq hh hc gk
    have h0 : c1 h 0 + 1 = nI (nN (sPass A k) + 1) := by
      rw [h1.1, sE_ne _ _ _ (fun t ht => by omega), (g_0 gk).1, nI_1]
    have hc1 : HC (jup c1 h 0 (nI (nN (sPass A k) + 1))) h (sN1 (sPass A k)) := HC_hd h1 (GA_sE gk _ _ (by omega)) _ (Or.inl ⟨rfl, rfl⟩)
    have g2 := (g_n gk).2
    unfold f0_passNights_b2
    rw [if_neg (by rw [nI_leI (by omega) (by omega)]; omega), r, ob, jup_self, h0, show jrem (nI (nN (sPass A k) + 1)) 4 = nI ((nN (sPass A k) + 1) % 4) from rem_nI (d := 4) (by omega) (by omega) (by omega), nI_1]
    have pT : sPass A (k + 1) = sNight (sPass A k) := rfl
    by_cases e : (nN (sPass A k) + 1) % 4 = 0
    · rw [e, if_pos (by decide)]
      unfold f0_payAll
      rw [if_pos (hs_obj hh)]
      obtain ⟨c2, r2, h3, h4⟩ := payC_loop hh s1 (nT (sPass A k)) jN 0 _ hc1 (by omega) (by unfold jN; omega)
      rw [show (0 : Int32) = nI 0 from rfl] at *
      rw [r2, ob]
      obtain ⟨c3, r3, h5, h6⟩ := ih n (k + 1) c2 (by rw [pT]; unfold sNight; rw [if_pos e, ← s2]; exact h3) (by omega) (by omega)
      exact ⟨c3, r3, h5, eH_tr (eH_tr (eH_tr h2 (eH_up _ _ _ (by omega) (by omega))) h4) h6⟩
    · rw [if_neg (nI_ne0 (by omega) (by omega))]
      obtain ⟨c3, r3, h5, h6⟩ := ih n (k + 1) _ (by rw [pT]; unfold sNight; rw [if_neg e]; exact hc1) (by omega) (by omega)
      exact ⟨c3, r3, h5, eH_tr (eH_tr h2 (eH_up _ _ _ (by omega) (by omega))) h6⟩
theorem passC_eq {c : JMu} {h : Nat} {A : Nat → Int32} (hh : jH h) (hc : HC c h A) (g : GA A) {N : Nat} (hN : N ≤ 900) (hb : nN A + N < 2 ^ 29) : ∃ c', f0_passNights h (nI N) c = some c' ∧ HC c' h (sPass A N) ∧ eH h c c' := by
  unfold f0_passNights
  rw [if_pos (hs_obj hh)]
  exact passC_loop hh g hb N jN 0 c hc (by omega) (by unfold jN; omega)

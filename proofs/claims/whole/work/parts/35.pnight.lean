/-! WHAT A LAW GIVES; THE LIT, THE SEEN; WHO HOLDS; RENTS -/
def sG0 (A : Nat → Int32) (x y z : Int32) : Int32 := if cdL A 106 = [] then 0 else evL x y z (cdL A 106) 0 (fun _ => 0)
def sG1 (A : Nat → Int32) (x y z : Int32) : Int32 := jmax 0 (jmin 99 (if cdL A 158 = [] then 1 + y / 4 else evL x y z (cdL A 158) 0 (fun _ => 0)))
theorem len0 (L : List Nat) (h : L.length ≤ 50) : nI L.length = 0 ↔ L = [] := by
  rw [show (0 : Int32) = nI 0 from rfl, nI_eq (by omega) (by omega)]; exact List.length_eq_zero_iff
theorem rule0 {c : JMu} {h : Nat} {A : Nat → Int32} (hh : jH h) (hc : HC c h A) (g : GA A) (x y z : Int32) :
    ∃ c', f1_rule (h + 12) x y z c = some (sG0 A x y z, c') ∧ HC c' h A ∧ eH h c c' := by
  obtain ⟨-, q1, q2, q3⟩ := g_x0 g
  have tc := hc.2.2.2.2.2.2.2.2.2.2.1
  have u := hc.2.2.2.2.2.2.2.2.2.1
  have lw := hs_law0 hh
  have lw' := lw
  obtain ⟨b1, b2, b3, b4, b5, a1, a2, a3, a4⟩ := lw
  unfold f1_rule sG0
  rw [if_pos b1, u, if_pos rfl, b2, if_pos a1, tc.1]
  by_cases e : cdL A 106 = []
  · rw [if_pos e, if_pos ((len0 _ q1).mpr e)]
    exact ⟨c, rfl, hc, eH_rf h c⟩
  · rw [if_neg e, if_neg (by rw [len0 _ q1]; exact e)]
    obtain ⟨c', r, fr⟩ := work_loop lw' x y z (cdL A 106) q1 (cdL A 106) 0 0 jN c (fun _ => 0) rfl tc (by unfold jN; omega) (by rcases q3 with h | h; exact absurd h e; exact h) (by intro i hi; omega) (by omega) (by omega)
    refine ⟨c', ?_, HC_rows hc g (fun q h1 _ => fr q h1), fun q hq => fr q (by omega)⟩
    unfold f1_workOut
    rw [if_pos b1]
    show Option.bind (f1_workOut_b6 (h + 12) jN x y z (nI 0) (nI 0) c) _ = _
    rw [r]; rfl
theorem rule1 {c : JMu} {h : Nat} {A : Nat → Int32} (hh : jH h) (hc : HC c h A) (g : GA A) (x y z : Int32) :
    ∃ c', f1_rule (h + 16) x y z c = some (sG1 A x y z, c') ∧ HC c' h A ∧ eH h c c' := by
  obtain ⟨-, q1, q2, q3⟩ := g_x1 g
  have tc := hc.2.2.2.2.2.2.2.2.2.2.2.2
  have u := hc.2.2.2.2.2.2.2.2.2.2.2.1
  have lw := hs_law1 hh
  have lw' := lw
  obtain ⟨b1, b2, b3, b4, b5, a1, a2, a3, a4⟩ := lw
  unfold f1_rule sG1
  rw [if_pos b1, u, if_neg (by decide), b2, if_pos a1, tc.1]
  by_cases e : cdL A 158 = []
  · rw [if_pos e, if_pos ((len0 _ q1).mpr e)]
    exact ⟨c, rfl, hc, eH_rf h c⟩
  · rw [if_neg e, if_neg (by rw [len0 _ q1]; exact e)]
    obtain ⟨c', r, fr⟩ := work_loop lw' x y z (cdL A 158) q1 (cdL A 158) 0 0 jN c (fun _ => 0) rfl tc (by unfold jN; omega) (by rcases q3 with h | h; exact absurd h e; exact h) (by intro i hi; omega) (by omega) (by omega)
    refine ⟨c', ?_, HC_rows hc g (fun q _ h1 => fr q h1), fun q hq => fr q (by omega)⟩
    unfold f1_workOut
    rw [if_pos b1]
    show Option.bind (f1_workOut_b6 (h + 16) jN x y z (nI 0) (nI 0) c) _ = _
    rw [r]; rfl
theorem lenle (L : List Nat) (h : L.length ≤ 50) : nI L.length ≤ 0 ↔ L = [] := by
  rw [show (0 : Int32) = nI 0 from rfl, nI_leI (by omega) (by omega), Nat.le_zero]; exact List.length_eq_zero_iff
theorem eM_3 (m : JMu) (x y z : Int32) : eM m (jup (jup (jup m 93 0 x) 93 1 y) 93 2 z) := eM_tr (eM_tr (eM_93 _ _ _) (eM_93 _ _ _)) (eM_93 _ _ _)
theorem given0 {m : JMu} (g : GA (m 87)) (x y z : Int32) : ∃ m', f9_given 0 x y z m = some (sG0 (m 87) x y z, m') ∧ m' 87 = m 87 ∧ eM m m' := by
  obtain ⟨q0, q1, q2, q3⟩ := g_x0 g
  unfold f9_given sG0
  rw [if_pos rfl]
  unfold f9_hasText
  rw [show ((106 : Int32) + 52 * 0) = nI 106 by decide, if_pos (by decide), nI_clamp (by omega), jup_row (by omega), jup_row (by omega), jup_row (by omega), q0]
  by_cases e : cdL (m 87) 106 = []
  · rw [if_pos e, if_pos ((lenle _ q1).mpr e)]
    refine ⟨_, rfl, ?_, eM_3 m x y z⟩
    rw [jup_row (by omega), jup_row (by omega), jup_row (by omega)]
  · rw [if_neg e, if_neg (by rw [lenle _ q1]; exact e)]
    obtain ⟨m', r, fr⟩ := worked_loop 106 (by omega) x y z (cdL (m 87) 106) q1 (cdL (m 87) 106) 0 0 jN (jup (jup (jup m 93 0 x) 93 1 y) 93 2 z) (fun _ => 0) rfl
      (by rw [jup_row (by omega), jup_row (by omega), jup_row (by omega)]; exact ⟨q0, q2⟩) ⟨rfl, rfl, rfl⟩ (by unfold jN; omega) (by rcases q3 with h | h; exact absurd h e; exact h) (by intro i hi; omega) (by omega) (by omega)
    refine ⟨m', ?_, ?_, ?_⟩
    · show Option.bind (f9_worked_b4 jN (nI (106 + 1)) (nI 0) (nI (106 + 1 + 0)) _) _ = _
      rw [r]; rfl
    · rw [fr 87 (by omega), jup_row (by omega), jup_row (by omega), jup_row (by omega)]
    · exact eM_tr (eM_3 m x y z) (fun q _ _ h => fr q h)
theorem given1 {m : JMu} (g : GA (m 87)) (x y z : Int32) : ∃ m', f9_given 1 x y z m = some (sG1 (m 87) x y z, m') ∧ m' 87 = m 87 ∧ eM m m' := by
  obtain ⟨q0, q1, q2, q3⟩ := g_x1 g
  unfold f9_given sG1
  rw [if_neg (by decide)]
  unfold f9_hasText
  rw [show ((106 : Int32) + 52 * 1) = nI 158 by decide, if_pos (by decide), nI_clamp (by omega), jup_row (by omega), jup_row (by omega), jup_row (by omega), q0]
  by_cases e : cdL (m 87) 158 = []
  · rw [if_pos e, if_pos ((lenle _ q1).mpr e)]
    refine ⟨_, rfl, ?_, eM_3 m x y z⟩
    rw [jup_row (by omega), jup_row (by omega), jup_row (by omega)]
  · rw [if_neg e, if_neg (by rw [lenle _ q1]; exact e)]
    obtain ⟨m', r, fr⟩ := worked_loop 158 (by omega) x y z (cdL (m 87) 158) q1 (cdL (m 87) 158) 0 0 jN (jup (jup (jup m 93 0 x) 93 1 y) 93 2 z) (fun _ => 0) rfl
      (by rw [jup_row (by omega), jup_row (by omega), jup_row (by omega)]; exact ⟨q0, q2⟩) ⟨rfl, rfl, rfl⟩ (by unfold jN; omega) (by rcases q3 with h | h; exact absurd h e; exact h) (by intro i hi; omega) (by omega) (by omega)
    refine ⟨m', ?_, ?_, ?_⟩
    · show Option.bind (f9_worked_b4 jN (nI (158 + 1)) (nI 0) (nI (158 + 1 + 0)) _) _ = _
      rw [r]; rfl
    · rw [fr 87 (by omega), jup_row (by omega), jup_row (by omega), jup_row (by omega)]
    · exact eM_tr (eM_3 m x y z) (fun q _ _ h => fr q h)
-- the lit
def sLit (p : Int32) : Int32 := (f9_litBy p).getD 0
theorem lit_c : ∀ p, p < 16 → f8_litBy (nI p) = some (sLit (nI p)) ∧ f9_litBy (nI p) = some (sLit (nI p)) ∧ (sLit (nI p)).toNatClampNeg < 2 ^ 24 ∧ ¬ sLit (nI p) < 0 := by decide +kernel
def sPh (n : Nat) : Int32 := nI (n % 16)
theorem rem_nI {a d : Nat} (ha : a < 2 ^ 31) (h0 : 0 < d) (hd : d < 2 ^ 31) : jrem (nI a) (nI d) = nI (a % d) := pk_rem ha h0 hd
def sSeen (A : Nat → Int32) (n : Nat) : Int32 := if sG0 A (nI n) (sPh n) (A 2) = 0 then sLit (sPh n) else 0
theorem seenIn_eq {c : JMu} {h : Nat} {A : Nat → Int32} (hh : jH h) (hc : HC c h A) (g : GA A) {n : Nat} (hn : n < 2 ^ 31) :
    ∃ c', f0_seenIn h (nI n) c = some (sSeen A n, c') ∧ HC c' h A ∧ eH h c c' := by
  have lw := hs_law0 hh
  obtain ⟨c', r, h1, h2⟩ := rule0 hh hc g (nI n) (sPh n) (A 2)
  refine ⟨c', ?_, h1, h2⟩
  unfold f0_seenIn sSeen
  rw [if_pos (hs_obj hh), (hs_rf hh).2.2.2.1, if_pos lw.1, hc.2.1, show jrem (nI n) 16 = sPh n from rem_nI (d := 16) hn (by omega) (by omega), r]
  show (if sG0 A (nI n) (sPh n) (A 2) = 0 then _ else _) = _
  by_cases e : sG0 A (nI n) (sPh n) (A 2) = 0
  · rw [if_pos e, if_pos e]
    unfold sPh
    rw [(lit_c (n % 16) (by omega)).1]; rfl
  · rw [if_neg e, if_neg e]
theorem phase_eq {m : JMu} (g : GA (m 87)) : f9_phase m = some (sPh (nN (m 87))) := by
  obtain ⟨g1, g2⟩ := g_0 g
  unfold f9_phase sPh
  conv => lhs; rw [g1]
  rw [show jrem (nI (nN (m 87))) 16 = nI (nN (m 87) % 16) from rem_nI (d := 16) (by omega) (by omega) (by omega)]
theorem litNow_eq {m : JMu} (g : GA (m 87)) : f9_litNow m = some (sLit (sPh (nN (m 87)))) := by
  unfold f9_litNow
  rw [phase_eq g]
  show Option.bind (f9_litBy _) _ = _
  unfold sPh
  rw [(lit_c _ (by omega)).2.1]; rfl
theorem seenNow_eq {m : JMu} (g : GA (m 87)) : ∃ m', f9_seenNow m = some (sSeen (m 87) (nN (m 87)), m') ∧ m' 87 = m 87 ∧ eM m m' := by
  obtain ⟨m', r, h1, h2⟩ := given0 g (nI (nN (m 87))) (sPh (nN (m 87))) (m 87 2)
  refine ⟨m', ?_, h1, h2⟩
  have e0 := (g_0 g).1
  unfold f9_seenNow f9_isCloudy sSeen
  rw [phase_eq g]
  rw [e0]
  show Option.bind (Option.bind (f9_given 0 (nI (nN (m 87))) (sPh (nN (m 87))) (m 87 2) m) _) _ = _
  rw [r]
  show Option.bind (if sG0 (m 87) (nI (nN (m 87))) (sPh (nN (m 87))) (m 87 2) = 0 then _ else _) _ = _
  by_cases e : sG0 (m 87) (nI (nN (m 87))) (sPh (nN (m 87))) (m 87 2) = 0
  · rw [if_pos e, if_pos e]
    show Option.bind (f9_litNow m') _ = _
    rw [litNow_eq (by rw [h1]; exact g), h1]; rfl
  · rw [if_neg e, if_neg e]; rfl
-- who holds
def tL (A : Nat → Int32) (t : Nat) : Int32 := A (6 + 5 * t + 2)
def sHo (A : Nat → Int32) (cells : Int32) : Nat → Int32
  | 0 => 0
  | k + 1 => if tL A k &&& cells = 0 then sHo A cells k else sHo A cells k ||| ((1 : Int32) <<< (nI k &&& 31))
def sHold (A : Nat → Int32) (cells : Int32) : Int32 := sHo A cells (nT A)
theorem tn_obj {h k : Nat} (hh : jH h) (hk : k < 6) : jO cPl (h + 2 + k) 6 = true := (hs_el hh k hk).2
theorem holders_loop {c : JMu} {h : Nat} {A : Nat → Int32} (hh : jH h) (hc : HC c h A) (g : GA A) (cells : Int32) : ∀ d n k, k + d = nT A → d < n → f0_holdersOf_b4 h n cells (sHo A cells k) (nI k) c = some (sHold A cells) := by
  obtain ⟨g1, g2⟩ := g_n g
  have hn : c h 3 = nI (nT A) := hc.2.2.2.1.trans g1
  intro d
  induction d with
  | zero =>
    intro n k hk hd
    obtain ⟨n, rfl⟩ : ∃ n', n = n' + 1 := ⟨n - 1, by omega⟩
    unfold f0_holdersOf_b4 sHold
    rw [hn, if_pos (by rw [nI_leI (by omega) (by omega)]; omega), show k = nT A by omega]
  | succ d ih =>
    intro n k hk hd
    obtain ⟨n, rfl⟩ : ∃ n', n = n' + 1 := ⟨n - 1, by omega⟩
    have i1 := ih n (k + 1) (by omega) (by omega)
    unfold f0_holdersOf_b4
    rw [hn, if_neg (by rw [nI_leI (by omega) (by omega)]; omega), find_in hh hn g2 (t := k) (by omega)]
    show (if jO cPl (h + 2 + k) 6 = true then _ else _) = _
    rw [if_pos (tn_obj hh (by omega)), hc.2.2.2.2.1 k 2 (by omega) (by omega), nI_1]
    unfold sHo tL at i1
    by_cases e : A (6 + 5 * k + 2) &&& cells = 0
    · rw [if_pos e]; rw [if_pos e] at i1; exact i1
    · rw [if_neg e]; rw [if_neg e] at i1; exact i1
theorem holders_eq {c : JMu} {h : Nat} {A : Nat → Int32} (hh : jH h) (hc : HC c h A) (g : GA A) (cells : Int32) : f0_holdersOf h cells c = some (sHold A cells) := by
  unfold f0_holdersOf
  rw [if_pos (hs_obj hh)]
  exact holders_loop hh hc g cells (nT A) jN 0 (by omega) (by have := (g_n g).2; unfold jN; omega)
theorem at_eq (t f : Nat) : f9_at (nI t) (nI f) = some (nI (6 + 5 * t + f)) := by
  unfold f9_at
  rw [show (6 : Int32) = nI 6 from rfl, show (5 : Int32) = nI 5 from rfl, pk_mul, nI_add, nI_add]
theorem tenantIs_eq (m : JMu) {t f : Nat} (ht : t < 6) (hf : f < 5) : f9_tenantIs (nI t) (nI f) m = some (m 87 (6 + 5 * t + f)) := by
  unfold f9_tenantIs
  rw [at_eq]
  show (if jin (nI (6 + 5 * t + f)) 210 = true then _ else _) = _
  rw [if_pos (jin_nI (by omega) (by omega)), nI_clamp (by omega)]
theorem ten0 (m : JMu) {t : Nat} (ht : t < 6) : f9_tenantIs (nI t) 0 m = some (m 87 (6 + 5 * t)) := tenantIs_eq m ht (f := 0) (by omega)
theorem ten1 (m : JMu) {t : Nat} (ht : t < 6) : f9_tenantIs (nI t) 1 m = some (m 87 (6 + 5 * t + 1)) := tenantIs_eq m ht (f := 1) (by omega)
theorem ten2 (m : JMu) {t : Nat} (ht : t < 6) : f9_tenantIs (nI t) 2 m = some (m 87 (6 + 5 * t + 2)) := tenantIs_eq m ht (f := 2) (by omega)
theorem ten3 (m : JMu) {t : Nat} (ht : t < 6) : f9_tenantIs (nI t) 3 m = some (m 87 (6 + 5 * t + 3)) := tenantIs_eq m ht (f := 3) (by omega)
theorem ten4 (m : JMu) {t : Nat} (ht : t < 6) : f9_tenantIs (nI t) 4 m = some (m 87 (6 + 5 * t + 4)) := tenantIs_eq m ht (f := 4) (by omega)
theorem holdersM_loop {m : JMu} (g : GA (m 87)) {cell : Nat} (hcl : cell < 24) : ∀ d n k, k + d = nT (m 87) → d < n → f9_holders_b4 n (nI cell) (sHo (m 87) ((1 : Int32) <<< (nI cell &&& 31)) k) (nI k) m = some (sHold (m 87) ((1 : Int32) <<< (nI cell &&& 31))) := by
  obtain ⟨g1, g2⟩ := g_n g
  intro d
  induction d with
  | zero =>
    intro n k hk hd
    obtain ⟨n, rfl⟩ : ∃ n', n = n' + 1 := ⟨n - 1, by omega⟩
    unfold f9_holders_b4 sHold
    rw [if_pos (by rw [g1, nI_leI (by omega) (by omega)]; omega), show k = nT (m 87) by omega]
  | succ d ih =>
    intro n k hk hd
    obtain ⟨n, rfl⟩ : ∃ n', n = n' + 1 := ⟨n - 1, by omega⟩
    have i1 := ih n (k + 1) (by omega) (by omega)
    unfold f9_holders_b4
    rw [if_neg (by rw [g1, nI_leI (by omega) (by omega)]; omega), ten2 m (by omega)]
    show Option.bind (f9_hasBit (m 87 (6 + 5 * k + 2)) (nI cell)) _ = _
    rw [hasBit_eq _ _ (by omega)]
    show (if (if bt (m 87 (6 + 5 * k + 2)) cell = true then (1 : Int32) else 0) = 0 then _ else _) = _
    unfold f9_holders_b35
    rw [nI_1]
    unfold sHo tL at i1
    have key := b_none (m 87 (6 + 5 * k + 2)) cell (by omega)
    by_cases e : m 87 (6 + 5 * k + 2) &&& ((1 : Int32) <<< (nI cell &&& 31)) = 0
    · rw [if_pos e] at i1
      rw [key.mp e]
      rw [if_pos (by decide)]
      rw [show ∀ x : Int32, x ||| 0 = x from fun x => by apply b_ext; intro i _; rw [b_or, b_0]; simp]
      exact i1
    · rw [if_neg e] at i1
      have : bt (m 87 (6 + 5 * k + 2)) cell = true := by
        cases q : bt (m 87 (6 + 5 * k + 2)) cell
        · exact absurd (key.mpr q) e
        · rfl
      rw [this, if_neg (by decide)]
      exact i1
theorem holdersM_eq {m : JMu} (g : GA (m 87)) {cell : Nat} (hcl : cell < 24) : f9_holders (nI cell) m = some (sHold (m 87) ((1 : Int32) <<< (nI cell &&& 31))) := by
  unfold f9_holders
  exact holdersM_loop g hcl (nT (m 87)) jN 0 (by omega) (by have := (g_n g).2; unfold jN; omega)
def sRent (A : Nat → Int32) (cell : Nat) : Int32 := sG1 A (nI (cell / 8)) (nI (cell % 8)) (nI (pcI (sHold A ((1 : Int32) <<< (nI cell &&& 31)))))
theorem rentOf_eq {m : JMu} (g : GA (m 87)) {cell : Nat} (hcl : cell < 24) : ∃ m', f9_rentOf (nI cell) m = some (sRent (m 87) cell, m') ∧ m' 87 = m 87 ∧ eM m m' := by
  obtain ⟨m', r, h1, h2⟩ := given1 g (nI (cell / 8)) (nI (cell % 8)) (nI (pcI (sHold (m 87) ((1 : Int32) <<< (nI cell &&& 31)))))
  refine ⟨m', ?_, h1, h2⟩
  unfold f9_rentOf
  rw [holdersM_eq g hcl]
  show Option.bind (f9_bits _) _ = _
  rw [bits_eq]
  show Option.bind (f9_given 1 (nI cell / nI 8) (jrem (nI cell) (nI 8)) _ m) _ = _
  rw [pk_div (by omega) (by omega) (by omega), rem_nI (by omega) (by omega) (by omega), r]; rfl
def sRT (A : Nat → Int32) (cells : Int32) : Nat → Int32
  | 0 => 0
  | k + 1 => if bt cells k then sRT A cells k + sRent A k else sRT A cells k
theorem rentT_loop {h : Nat} {A : Nat → Int32} (hh : jH h) (g : GA A) (cells : Int32) : ∀ d n k c, HC c h A → k + d = 24 → d < n → ∃ c', f0_rentTogether_b4 h n cells (sRT A cells k) (nI k) c = some (sRT A cells 24, c') ∧ HC c' h A ∧ eH h c c' := by
  intro d
  induction d with
  | zero =>
    intro n k c hc hk hd
    obtain ⟨n, rfl⟩ : ∃ n', n = n' + 1 := ⟨n - 1, by omega⟩
    refine ⟨c, ?_, hc, eH_rf h c⟩
    unfold f0_rentTogether_b4
    rw [if_pos (by show nI 24 ≤ nI k; rw [nI_leI (by omega) (by omega)]; omega), show k = 24 by omega]
  | succ d ih =>
    intro n k c hc hk hd
    obtain ⟨n, rfl⟩ : ∃ n', n = n' + 1 := ⟨n - 1, by omega⟩
    unfold f0_rentTogether_b4
    rw [if_neg (by show ¬ nI 24 ≤ nI k; rw [nI_leI (by omega) (by omega)]; omega), nI_1]
    by_cases e : bt cells k = false
    · rw [if_pos ((b_sel0 cells k (by omega)).mpr e)]
      have i1 := ih n (k + 1) c hc (by omega) (by omega)
      unfold sRT at i1
      rw [e] at i1
      exact i1
    · rw [if_neg (by rw [b_sel0 cells k (by omega)]; exact e), holders_eq hh hc g]
      rw [ob, bitCount_eq, ob, show (8 : Int32) = nI 8 from rfl]
      rw [(hs_rf hh).2.2.2.2, if_pos (hs_law1 hh).1, pk_div (by omega) (by omega) (by omega), rem_nI (by omega) (by omega) (by omega)]
      obtain ⟨c1, r, h1, h2⟩ := rule1 hh hc g (nI (k / 8)) (nI (k % 8)) (nI (pcI (sHold A ((1 : Int32) <<< (nI k &&& 31)))))
      rw [r]
      obtain ⟨c2, r2, h3, h4⟩ := ih n (k + 1) c1 h1 (by omega) (by omega)
      refine ⟨c2, ?_, h3, eH_tr h2 h4⟩
      unfold sRT at r2
      have e2 : bt cells k = true := by cases q : bt cells k; exact absurd q e; rfl
      rw [e2] at r2
      exact r2
theorem rentT_eq {c : JMu} {h : Nat} {A : Nat → Int32} (hh : jH h) (hc : HC c h A) (g : GA A) (cells : Int32) : ∃ c', f0_rentTogether h cells c = some (sRT A cells 24, c') ∧ HC c' h A ∧ eH h c c' := by
  unfold f0_rentTogether
  rw [if_pos (hs_obj hh)]
  exact rentT_loop hh g cells 24 jN 0 c hc (by omega) (by unfold jN; omega)

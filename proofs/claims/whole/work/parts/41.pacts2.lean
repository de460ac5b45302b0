/-! FEED, TELL, COUNT, FALLS, DEAR -/
theorem add_in {p n s : Nat} {c : JMu} (hp : jRow p n) (hn : n < 2 ^ 31) (hs : c p 1 = nI s) (h1 : s < n) (v : Int32) : f3_add p v c = some (1, jup (jup c (p + 1) s v) p 1 (nI (s + 1))) := by
  obtain ⟨a1, a2, a3, a4⟩ := hp
  unfold f3_add
  rw [if_pos a1, hs, if_neg (nI_pos (by omega)), a2, if_pos a3, a4, if_pos (by show nI s < nI n; rw [ltI (by omega) (by omega)]; exact h1), if_pos (jin_nI h1 hn), nI_clamp (by omega), jup_row (by omega), hs, nI_1]
theorem add_out {p n : Nat} {c : JMu} (hp : jRow p n) (hn : n < 2 ^ 31) (hs : c p 1 = nI n) (v : Int32) : f3_add p v c = some (0, c) := by
  obtain ⟨a1, a2, a3, a4⟩ := hp
  unfold f3_add
  rw [if_pos a1, hs, if_neg (nI_pos (by omega)), a2, if_pos a3, a4, if_neg (by show ¬ nI n < nI n; rw [ltI (by omega) (by omega)]; omega)]
def pushB (A : Nat → Int32) (v : Int32) : Nat → Int32 := up1 (up1 A (36 + nB A) v) 3 (nI (nB A + 1))
def pushW (A : Nat → Int32) (v : Int32) : Nat → Int32 := up1 (up1 A (86 + nW A) v) 4 (nI (nW A + 1))
theorem GA_pushB {A : Nat → Int32} (g : GA A) (h : nB A < 50) (v : Int32) : GA (pushB A v) ∧ nB (pushB A v) = nB A + 1 ∧ nN (pushB A v) = nN A := by
  have g2 := (g_n g).2
  have ne : ∀ j, j ≠ 3 → j ≠ 36 + nB A → pushB A v j = A j := fun j h1 h2 => by unfold pushB; rw [up1_ne _ _ h1, up1_ne _ _ h2]
  obtain ⟨h1, h2, h3, h4, ⟨L0, h5⟩, ⟨L1, h6⟩, h7, h8⟩ := g
  have hT : nT (pushB A v) = nT A := by unfold nT; rw [ne 1 (by omega) (by omega)]
  refine ⟨⟨?_, ⟨nB A + 1, by omega, ?_⟩, ?_, ?_, ⟨L0, TXA_cong h5 (fun j j1 j2 => ne j (by omega) (by omega))⟩, ⟨L1, TXA_cong h6 (fun j j1 j2 => ne j (by omega) (by omega))⟩, ?_, ?_⟩, ?_, ?_⟩
  · rw [ne 1 (by omega) (by omega)]; exact h1
  · unfold pushB; rw [up1_self]
  · rw [ne 4 (by omega) (by omega)]; exact h3
  · rw [ne 0 (by omega) (by omega)]; exact h4
  · rw [hT]
    intro t ht
    rw [ne _ (by omega) (by omega), ne _ (by omega) (by omega), ne _ (by omega) (by omega), ne _ (by omega) (by omega), ne _ (by omega) (by omega)]
    exact h7 t ht
  · rw [ne 2 (by omega) (by omega)]; exact h8
  · show (pushB A v 3).toNatClampNeg = _
    unfold pushB; rw [up1_self, nI_clamp (by omega)]
  · unfold nN; rw [ne 0 (by omega) (by omega)]
theorem GA_pushW {A : Nat → Int32} (g : GA A) (h : nW A < 20) (v : Int32) : GA (pushW A v) ∧ nW (pushW A v) = nW A + 1 ∧ nN (pushW A v) = nN A := by
  have g2 := (g_n g).2
  have ne : ∀ j, j ≠ 4 → j ≠ 86 + nW A → pushW A v j = A j := fun j h1 h2 => by unfold pushW; rw [up1_ne _ _ h1, up1_ne _ _ h2]
  obtain ⟨h1, h2, h3, h4, ⟨L0, h5⟩, ⟨L1, h6⟩, h7, h8⟩ := g
  have hT : nT (pushW A v) = nT A := by unfold nT; rw [ne 1 (by omega) (by omega)]
  refine ⟨⟨?_, ?_, ⟨nW A + 1, by omega, ?_⟩, ?_, ⟨L0, TXA_cong h5 (fun j j1 j2 => ne j (by omega) (by omega))⟩, ⟨L1, TXA_cong h6 (fun j j1 j2 => ne j (by omega) (by omega))⟩, ?_, ?_⟩, ?_, ?_⟩
  · rw [ne 1 (by omega) (by omega)]; exact h1
  · rw [ne 3 (by omega) (by omega)]; exact h2
  · unfold pushW; rw [up1_self]
  · rw [ne 0 (by omega) (by omega)]; exact h4
  · rw [hT]
    intro t ht
    rw [ne _ (by omega) (by omega), ne _ (by omega) (by omega), ne _ (by omega) (by omega), ne _ (by omega) (by omega), ne _ (by omega) (by omega)]
    exact h7 t ht
  · rw [ne 2 (by omega) (by omega)]; exact h8
  · show (pushW A v 4).toNatClampNeg = _
    unfold pushW; rw [up1_self, nI_clamp (by omega)]
  · unfold nN; rw [ne 0 (by omega) (by omega)]
theorem HC_pushB {c : JMu} {h : Nat} {A : Nat → Int32} (hc : HC c h A) (g : GA A) (hb : nB A < 50) (v : Int32) : HC (jup (jup c (h + 9) (nB A) v) (h + 8) 1 (nI (nB A + 1))) h (pushB A v) := by
  have g2 := (g_n g).2
  have gw := (g_w g).2
  have ne : ∀ j, j ≠ 3 → j ≠ 36 + nB A → pushB A v j = A j := fun j h1 h2 => by unfold pushB; rw [up1_ne _ _ h1, up1_ne _ _ h2]
  obtain ⟨gB1, gB2, gB3⟩ := GA_pushB g hb v
  have cr : ∀ p, p ≠ h + 8 → p ≠ h + 9 → (jup (jup c (h + 9) (nB A) v) (h + 8) 1 (nI (nB A + 1))) p = c p := fun p h1 h2 => by rw [jup_row h1, jup_row h2]
  have hT : nT (pushB A v) = nT A := by unfold nT; rw [ne 1 (by omega) (by omega)]
  have hW : nW (pushB A v) = nW A := by unfold nW; rw [ne 4 (by omega) (by omega)]
  have x0 := cdL_c (A := A) (B := pushB A v) (a := 106) (by rw [(g_x0 g).1, nI_clamp (by have := (g_x0 g).2.1; omega)]; exact (g_x0 g).2.1) (fun j j1 j2 => ne j (by omega) (by omega))
  have x1 := cdL_c (A := A) (B := pushB A v) (a := 158) (by rw [(g_x1 g).1, nI_clamp (by have := (g_x1 g).2.1; omega)]; exact (g_x1 g).2.1) (fun j j1 j2 => ne j (by omega) (by omega))
  obtain ⟨a1, a2, a3, a4, a5, a6, a7, a8, a9, a10, ⟨a11, a12⟩, a13, ⟨a14, a15⟩⟩ := hc
  unfold HC TXC
  rw [hT, hW, x0, x1, gB2]
  refine ⟨?_, ?_, ?_, ?_, ?_, ?_, ?_, ?_, ?_, ?_, ⟨?_, ?_⟩, ?_, ⟨?_, ?_⟩⟩
  · rw [cr _ (by omega) (by omega), ne _ (by omega) (by omega)]; exact a1
  · rw [cr _ (by omega) (by omega), ne _ (by omega) (by omega)]; exact a2
  · rw [cr _ (by omega) (by omega), ne _ (by omega) (by omega)]; exact a3
  · rw [cr _ (by omega) (by omega), ne _ (by omega) (by omega)]; exact a4
  · intro t f ht hf
    rw [cr _ (by omega) (by omega), ne _ (by omega) (by omega)]; exact a5 t f ht hf
  · rw [jup_self]; unfold pushB; rw [up1_self]
  · intro i hi
    rw [jup_row (by omega)]
    by_cases e : i = nB A
    · subst e
      rw [jup_self]; unfold pushB; rw [up1_ne _ _ (by omega), up1_self]
    · rw [jup_col e, ne _ (by omega) (by omega)]; exact a7 i (by omega)
  · rw [cr _ (by omega) (by omega), ne _ (by omega) (by omega)]; exact a8
  · intro i hi; rw [cr _ (by omega) (by omega), ne _ (by omega) (by omega)]; exact a9 i hi
  · rw [cr _ (by omega) (by omega)]; exact a10
  · rw [cr _ (by omega) (by omega)]; exact a11
  · rw [cr _ (by omega) (by omega)]; exact a12
  · rw [cr _ (by omega) (by omega)]; exact a13
  · rw [cr _ (by omega) (by omega)]; exact a14
  · rw [cr _ (by omega) (by omega)]; exact a15
theorem HC_pushW {c : JMu} {h : Nat} {A : Nat → Int32} (hc : HC c h A) (g : GA A) (hb : nW A < 20) (v : Int32) : HC (jup (jup c (h + 11) (nW A) v) (h + 10) 1 (nI (nW A + 1))) h (pushW A v) := by
  have g2 := (g_n g).2
  have gb := (g_b g).2
  have ne : ∀ j, j ≠ 4 → j ≠ 86 + nW A → pushW A v j = A j := fun j h1 h2 => by unfold pushW; rw [up1_ne _ _ h1, up1_ne _ _ h2]
  obtain ⟨gB1, gB2, gB3⟩ := GA_pushW g hb v
  have cr : ∀ p, p ≠ h + 10 → p ≠ h + 11 → (jup (jup c (h + 11) (nW A) v) (h + 10) 1 (nI (nW A + 1))) p = c p := fun p h1 h2 => by rw [jup_row h1, jup_row h2]
  have hT : nT (pushW A v) = nT A := by unfold nT; rw [ne 1 (by omega) (by omega)]
  have hB : nB (pushW A v) = nB A := by unfold nB; rw [ne 3 (by omega) (by omega)]
  have x0 := cdL_c (A := A) (B := pushW A v) (a := 106) (by rw [(g_x0 g).1, nI_clamp (by have := (g_x0 g).2.1; omega)]; exact (g_x0 g).2.1) (fun j j1 j2 => ne j (by omega) (by omega))
  have x1 := cdL_c (A := A) (B := pushW A v) (a := 158) (by rw [(g_x1 g).1, nI_clamp (by have := (g_x1 g).2.1; omega)]; exact (g_x1 g).2.1) (fun j j1 j2 => ne j (by omega) (by omega))
  obtain ⟨a1, a2, a3, a4, a5, a6, a7, a8, a9, a10, ⟨a11, a12⟩, a13, ⟨a14, a15⟩⟩ := hc
  unfold HC TXC
  rw [hT, hB, x0, x1, gB2]
  refine ⟨?_, ?_, ?_, ?_, ?_, ?_, ?_, ?_, ?_, ?_, ⟨?_, ?_⟩, ?_, ⟨?_, ?_⟩⟩
  · rw [cr _ (by omega) (by omega), ne _ (by omega) (by omega)]; exact a1
  · rw [cr _ (by omega) (by omega), ne _ (by omega) (by omega)]; exact a2
  · rw [cr _ (by omega) (by omega), ne _ (by omega) (by omega)]; exact a3
  · rw [cr _ (by omega) (by omega), ne _ (by omega) (by omega)]; exact a4
  · intro t f ht hf
    rw [cr _ (by omega) (by omega), ne _ (by omega) (by omega)]; exact a5 t f ht hf
  · rw [cr _ (by omega) (by omega), ne _ (by omega) (by omega)]; exact a6
  · intro i hi; rw [cr _ (by omega) (by omega), ne _ (by omega) (by omega)]; exact a7 i hi
  · rw [jup_self]; unfold pushW; rw [up1_self]
  · intro i hi
    rw [jup_row (by omega)]
    by_cases e : i = nW A
    · subst e
      rw [jup_self]; unfold pushW; rw [up1_ne _ _ (by omega), up1_self]
    · rw [jup_col e, ne _ (by omega) (by omega)]; exact a9 i (by omega)
  · rw [cr _ (by omega) (by omega)]; exact a10
  · rw [cr _ (by omega) (by omega)]; exact a11
  · rw [cr _ (by omega) (by omega)]; exact a12
  · rw [cr _ (by omega) (by omega)]; exact a13
  · rw [cr _ (by omega) (by omega)]; exact a14
  · rw [cr _ (by omega) (by omega)]; exact a15
theorem feed_loop (w : Int64) (N : Nat) (hN : N ≤ 8) : ∀ d n k (c m : JMu), R c m → k + d = N → nB (m 87) + d ≤ 50 → d < n → Ans (f8_feed_b44 n w (nI N) (nI k) c) (f9_feed_b40 n w (nI N) (nI k) m) := by
  intro d
  induction d with
  | zero =>
    intro n k c m r hk hb hd
    obtain ⟨n, rfl⟩ : ∃ n', n = n' + 1 := ⟨n - 1, by omega⟩
    unfold f8_feed_b44 f9_feed_b40
    rw [if_pos (by rw [nI_leI (by omega) (by omega)]; omega), if_pos (by rw [nI_leI (by omega) (by omega)]; omega), show c 9 1 = m 87 3 from r.1.2.2.2.2.2.1]
    exact ⟨_, _, _, rfl, rfl, r⟩
  | succ d ih =>
    intro n k c m r hk hb hd
    obtain ⟨n, rfl⟩ : ∃ n', n = n' + 1 := ⟨n - 1, by omega⟩
    have g := r.2.1
    obtain ⟨b1, b2⟩ := g_b g
    have e9 : c 9 1 = nI (nB (m 87)) := (show c 9 1 = m 87 3 from r.1.2.2.2.2.2.1).trans b1
    unfold f8_feed_b44 f9_feed_b40
    rw [if_neg (by rw [nI_leI (by omega) (by omega)]; omega), if_neg (by rw [nI_leI (by omega) (by omega)]; omega)]
    generalize ((w >>> (((8 : Int32) * nI k).toInt64 &&& 63)) &&& (255 : Int64)).toInt32 = v
    rw [add_in (show jRow 9 50 from hs_tape jH1) (by omega) e9 (by omega), ob, b1, show (36 : Int32) = nI 36 from rfl, nI_add, if_pos (jin_nI (by omega) (by omega)), nI_clamp (by omega), jup_col (by omega), b1, nI_1, nI_1]
    obtain ⟨q1, q2, q3⟩ := GA_pushB g (by omega) v
    have hm : (jup (jup m 87 (36 + nB (m 87)) v) 87 3 (nI (nB (m 87) + 1))) 87 = pushB (m 87) v := by rw [jup_rs, jup_rs]; rfl
    refine ih n (k + 1) _ _ (R_now r (by rw [hm]; exact HC_pushB r.1 g (by omega) v) (by rw [hm]; exact q1) (by rw [hm, q3]; exact r.2.2.1) (eH_tr (eH_up _ _ _ (by omega) (by omega)) (eH_up _ _ _ (by omega) (by omega))) (eM_tr (eM_up _ _ _) (eM_up _ _ _))) (by omega) (by rw [hm, q2]; omega) (by omega)
theorem act_feed {c m : JMu} (r : R c m) (w : Int64) (x : Int32) : Ans (f8_feed w x c) (f9_feed w x m) := by
  have g := r.2.1
  obtain ⟨b1, b2⟩ := g_b g
  have e9 : c 9 1 = nI (nB (m 87)) := (show c 9 1 = m 87 3 from r.1.2.2.2.2.2.1).trans b1
  unfold f8_feed f9_feed
  rw [outside_eq, within_eq, ob, ob, e9, b1]
  rcases rng x 1 8 (by omega) (by omega) with h | ⟨h, q, h3, h4, rfl⟩
  · have h : x < 1 ∨ 8 < x := h
    rw [if_pos h, if_pos h, if_neg i10, if_pos rfl]; exact ans_err1 r
  · have h : ¬ (nI q < 1 ∨ 8 < nI q) := h
    rw [if_neg h, if_neg h, if_pos rfl, if_neg i10, nI_add]
    by_cases e : nI (nB (m 87) + q) ≤ 50
    · have e' : nB (m 87) + q ≤ 50 := by
        have : nI (nB (m 87) + q) ≤ nI 50 := e
        rw [nI_leI (by omega) (by omega)] at this; exact this
      rw [if_pos e, if_pos e]
      exact feed_loop w q h4 q jN 0 c m r (by omega) e' (by unfold jN; omega)
    · rw [if_neg e, if_neg e]; exact ans_err4 r
theorem act_tell {c m : JMu} (r : R c m) (v : Int32) : Ans (f8_tell v c) (f9_tell v m) := by
  have g := r.2.1
  obtain ⟨b1, b2⟩ := g_w g
  have e9 : c 11 1 = nI (nW (m 87)) := (show c 11 1 = m 87 4 from r.1.2.2.2.2.2.2.2.1).trans b1
  unfold f8_tell f9_tell
  rw [b1]
  by_cases e : nW (m 87) = 20
  · rw [e] at e9
    rw [add_out (show jRow 11 20 from hs_wait jH1) (by omega) e9, ob, e]
    dsimp only
    rw [if_pos rfl, if_pos (by decide)]
    exact ans_err4 r
  · obtain ⟨q1, q2, q3⟩ := GA_pushW g (by omega) v
    have hm : (jup (jup m 87 (86 + nW (m 87)) v) 87 4 (nI (nW (m 87) + 1))) 87 = pushW (m 87) v := by rw [jup_rs, jup_rs]; rfl
    rw [add_in (show jRow 11 20 from hs_wait jH1) (by omega) e9 (by omega), ob]
    dsimp only
    rw [if_neg i10, if_neg (by show ¬ nI (nW (m 87)) = nI 20; rw [nI_eq (by omega) (by omega)]; exact e), show (86 : Int32) = nI 86 from rfl, nI_add, if_pos (jin_nI (by omega) (by omega)), nI_clamp (by omega), jup_self, jup_self, jup_col (by omega), b1, nI_1]
    refine ⟨_, _, _, rfl, rfl, R_now r (by rw [hm]; exact HC_pushW r.1 g (by omega) v) (by rw [hm]; exact q1) (by rw [hm, q3]; exact r.2.2.1) (eH_tr (eH_up _ _ _ (by omega) (by omega)) (eH_up _ _ _ (by omega) (by omega))) (eM_tr (eM_up _ _ _) (eM_up _ _ _))⟩
-- who holds what
def sHeld (A : Nat → Int32) (x : Int32) : Nat → Int32
  | 0 => 0
  | k + 1 => if nI k = x then sHeld A x k else sHeld A x k ||| tL A k
theorem sHeld_s (A : Nat → Int32) (x : Int32) (k : Nat) : sHeld A x (k + 1) = if nI k = x then sHeld A x k else sHeld A x k ||| A (6 + 5 * k + 2) := rfl
theorem held_loop {c : JMu} {h : Nat} {A : Nat → Int32} (hh : jH h) (hc : HC c h A) (g : GA A) (x : Int32) : ∀ d n k, k + d = nT A → d < n → f0_heldByOthers_b4 h n x (sHeld A x k) (nI k) c = some (sHeld A x (nT A)) := by
  obtain ⟨g1, g2⟩ := g_n g
  have hn : c h 3 = nI (nT A) := hc.2.2.2.1.trans g1
  intro d
  induction d with
  | zero =>
    intro n k hk hd
    obtain ⟨n, rfl⟩ : ∃ n', n = n' + 1 := ⟨n - 1, by omega⟩
    unfold f0_heldByOthers_b4
    rw [hn, if_pos (by rw [nI_leI (by omega) (by omega)]; omega), show k = nT A by omega]
  | succ d ih =>
    intro n k hk hd
    obtain ⟨n, rfl⟩ : ∃ n', n = n' + 1 := ⟨n - 1, by omega⟩
    have i1 := ih n (k + 1) (by omega) (by omega)
    unfold f0_heldByOthers_b4
    rw [hn, if_neg (by rw [nI_leI (by omega) (by omega)]; omega), find_in hh hn g2 (t := k) (by omega), ob]
    dsimp only
    rw [if_pos (tn_obj hh (by omega)), hc.2.2.2.2.1 k 2 (by omega) (by omega), nI_1]
    rw [sHeld_s] at i1
    by_cases e : nI k = x
    · rw [if_pos e]; rw [if_pos e] at i1; exact i1
    · rw [if_neg e]; rw [if_neg e] at i1; exact i1
theorem held_eq {c : JMu} {h : Nat} {A : Nat → Int32} (hh : jH h) (hc : HC c h A) (g : GA A) (x : Int32) : f0_heldByOthers h x c = some (sHeld A x (nT A)) := by
  unfold f0_heldByOthers
  rw [if_pos (hs_obj hh)]
  exact held_loop hh hc g x (nT A) jN 0 (by omega) (by have := (g_n g).2; unfold jN; omega)
theorem nI_nm1 {k : Nat} (h : k < 2 ^ 31) : ¬ nI k = -1 := by
  intro q
  rw [fa_eq, nI_toInt h] at q
  have : (-1 : Int32).toInt = -1 := rfl
  omega
theorem heldNow_loop {m : JMu} (g : GA (m 87)) : ∀ d n k, k + d = nT (m 87) → d < n → f9_heldNow_b4 n (sHeld (m 87) (-1) k) (nI k) m = some (sHeld (m 87) (-1) (nT (m 87))) := by
  obtain ⟨g1, g2⟩ := g_n g
  intro d
  induction d with
  | zero =>
    intro n k hk hd
    obtain ⟨n, rfl⟩ : ∃ n', n = n' + 1 := ⟨n - 1, by omega⟩
    unfold f9_heldNow_b4
    rw [g1, if_pos (by rw [nI_leI (by omega) (by omega)]; omega), show k = nT (m 87) by omega]
  | succ d ih =>
    intro n k hk hd
    obtain ⟨n, rfl⟩ : ∃ n', n = n' + 1 := ⟨n - 1, by omega⟩
    have i1 := ih n (k + 1) (by omega) (by omega)
    unfold f9_heldNow_b4
    rw [if_neg (by rw [g1, nI_leI (by omega) (by omega)]; omega), ten2 m (by omega), ob, nI_1]
    rw [sHeld_s] at i1
    rw [if_neg (nI_nm1 (by omega))] at i1
    exact i1
theorem heldNow_eq {m : JMu} (g : GA (m 87)) : f9_heldNow m = some (sHeld (m 87) (-1) (nT (m 87))) := by
  unfold f9_heldNow
  exact heldNow_loop g (nT (m 87)) jN 0 (by omega) (by have := (g_n g).2; unfold jN; omega)
theorem act_count {c m : JMu} (r : R c m) (x : Int32) : Ans (f8_count x c) (f9_count x m) := by
  have g := r.2.1
  have n9 := r.2.2.1
  have e0 : c 1 0 = nI (nN (m 87)) := r.1.1.trans (g_0 g).1
  have er : jrem (nI (nN (m 87))) 16 = sPh (nN (m 87)) := rem_nI (d := 16) (by omega) (by omega) (by omega)
  unfold f8_count f9_count
  by_cases h0 : x = 0
  · rw [if_pos h0, if_pos h0, r.1.2.2.2.1]; exact ⟨_, _, _, rfl, rfl, r⟩
  rw [if_neg h0, if_neg h0]
  by_cases h1 : x = 1
  · rw [if_pos h1, if_pos h1, r.1.1]; exact ⟨_, _, _, rfl, rfl, r⟩
  rw [if_neg h1, if_neg h1]
  by_cases h2 : x = 2
  · rw [if_pos h2, if_pos h2, e0, er, phase_eq g]; exact ⟨_, _, _, rfl, rfl, r⟩
  rw [if_neg h2, if_neg h2]
  by_cases h3 : x = 3
  · rw [if_pos h3, if_pos h3, r.1.2.1]; exact ⟨_, _, _, rfl, rfl, r⟩
  rw [if_neg h3, if_neg h3]
  by_cases h4 : x = 4
  · rw [if_pos h4, if_pos h4, held_eq jH1 r.1 g, heldNow_eq g, ob, ob, bitCount_eq, bits_eq]; exact ⟨_, _, _, rfl, rfl, r⟩
  rw [if_neg h4, if_neg h4]
  by_cases h5 : x = 5
  · obtain ⟨c', a1, a2, a3⟩ := seenIn_eq jH1 r.1 g (n := nN (m 87)) (by omega)
    obtain ⟨m', b1, b2, b3⟩ := seenNow_eq g
    rw [if_pos h5, if_pos h5, e0, a1, b1, ob, ob, bitCount_eq, bits_eq]
    exact ⟨_, _, _, rfl, rfl, R_look r a2 a3 b2 b3⟩
  rw [if_neg h5, if_neg h5]
  by_cases h6 : x = 6
  · rw [if_pos h6, if_pos h6, outC_eq jH1 r.1 g, outM_eq g]; exact ⟨_, _, _, rfl, rfl, r⟩
  rw [if_neg h6, if_neg h6]
  by_cases h7 : x = 7
  · rw [if_pos h7, if_pos h7, show c 9 1 = m 87 3 from r.1.2.2.2.2.2.1]; exact ⟨_, _, _, rfl, rfl, r⟩
  rw [if_neg h7, if_neg h7]
  by_cases h8 : x = 8
  · rw [if_pos h8, if_pos h8, show c 11 1 = m 87 4 from r.1.2.2.2.2.2.2.2.1]; exact ⟨_, _, _, rfl, rfl, r⟩
  rw [if_neg h8, if_neg h8]
  by_cases h9 : x = 9
  · obtain ⟨n, n1, n2, n3, n4⟩ := r.2.2.2.2.2.2.2.2.2
    rw [if_pos h9, if_pos h9, n2, n3]; exact ⟨_, _, _, rfl, rfl, r⟩
  rw [if_neg h9, if_neg h9]
  by_cases h10 : x = 10
  · rw [if_pos h10, if_pos h10, r.1.2.2.1]; exact ⟨_, _, _, rfl, rfl, r⟩
  rw [if_neg h10, if_neg h10]
  exact ans_err1 r
-- falls
theorem falls_loop {c m : JMu} (r : R c m) {p d : Nat} (hp : p ≤ 15) (hd : d ≤ 6) (K : Nat) (hK : K ≤ 111) (hit : (nN (m 87) + K) % 16 = p ∧ (nN (m 87) + K) % 7 = d) : ∀ e n k, k + e = K → e < n → (∀ j, k ≤ j → j < K → ¬ ((nN (m 87) + j) % 16 = p ∧ (nN (m 87) + j) % 7 = d)) →
    f8_falls_b29 n (nI p) (nI d) (nI k) c = some (nI K, c) ∧ f9_falls_b29 n (nI p) (nI d) (nI k) m = some (nI K, m) := by
  have g := r.2.1
  have n9 := r.2.2.1
  have e0 : c 1 0 = nI (nN (m 87)) := r.1.1.trans (g_0 g).1
  have q16 : ∀ k, k ≤ 111 → jrem (nI (nN (m 87)) + nI k) 16 = nI ((nN (m 87) + k) % 16) := fun k hk => by rw [nI_add]; exact rem_nI (d := 16) (by omega) (by omega) (by omega)
  have q7 : ∀ k, k ≤ 111 → jrem (nI (nN (m 87)) + nI k) 7 = nI ((nN (m 87) + k) % 7) := fun k hk => by rw [nI_add]; exact rem_nI (d := 7) (by omega) (by omega) (by omega)
  intro e
  induction e with
  | zero =>
    intro n k hk he _
    obtain ⟨n, rfl⟩ : ∃ n', n = n' + 1 := ⟨n - 1, by omega⟩
    obtain rfl : k = K := by omega
    unfold f8_falls_b29 f9_falls_b29
    rw [e0, (g_0 g).1, q16 k hK, q7 k hK, hit.1, hit.2]
    refine ⟨?_, by simp⟩
    split <;> simp
  | succ e ih =>
    intro n k hk he hno
    obtain ⟨n, rfl⟩ : ∃ n', n = n' + 1 := ⟨n - 1, by omega⟩
    obtain ⟨i1, i2⟩ := ih n (k + 1) (by omega) (by omega) (fun j h1 h2 => hno j (by omega) h2)
    have no := hno k (by omega) (by omega)
    unfold f8_falls_b29 f9_falls_b29
    rw [e0, (g_0 g).1, q16 k (by omega), q7 k (by omega), nI_1, if_neg (by show ¬ nI 111 ≤ nI k; rw [nI_leI (by omega) (by omega)]; omega)]
    by_cases x1 : (nN (m 87) + k) % 16 = p
    · have x2 : ¬ (nN (m 87) + k) % 7 = d := fun x2 => no ⟨x1, x2⟩
      rw [if_pos (by rw [x1]), if_neg (by rw [nI_eq (by omega) (by omega)]; exact x2), if_pos (by rw [x1]), if_neg (by rw [nI_eq (by omega) (by omega)]; exact x2)]
      exact ⟨i1, i2⟩
    · rw [if_neg (by rw [nI_eq (by omega) (by omega)]; exact x1), if_neg (by rw [nI_eq (by omega) (by omega)]; exact x1)]
      exact ⟨i1, i2⟩
theorem least_of (P : Nat → Prop) (K : Nat) (h : P K) : ∃ j, j ≤ K ∧ P j ∧ ∀ i, i < j → ¬ P i := by
  induction K using Nat.strongRecOn with
  | ind K ih =>
    by_cases q : ∃ i, i < K ∧ P i
    · obtain ⟨i, i1, i2⟩ := q
      obtain ⟨j, j1, j2, j3⟩ := ih i i1 i2
      exact ⟨j, by omega, j2, j3⟩
    · exact ⟨K, Nat.le_refl _, h, fun i hi hp => q ⟨i, hi, hp⟩⟩
theorem act_falls {c m : JMu} (r : R c m) (x y : Int32) : Ans (f8_falls x y c) (f9_falls x y m) := by
  unfold f8_falls f9_falls f8_falls_b20 f9_falls_b20
  rw [outside_eq, within_eq, ob, ob]
  rcases rng x 0 15 (by omega) (by omega) with h | ⟨h, p, h3, h4, rfl⟩
  · have h : x < 0 ∨ 15 < x := h
    rw [if_pos h, if_pos h, if_neg i10, if_pos rfl]; exact ans_err1 r
  · have h : ¬ (nI p < 0 ∨ 15 < nI p) := h
    rw [if_neg h, if_neg h, if_pos rfl, if_neg i10, outside_eq, within_eq, ob, ob]
    rcases rng y 0 6 (by omega) (by omega) with h' | ⟨h', d, h5, h6, rfl⟩
    · have h' : y < 0 ∨ 6 < y := h'
      rw [if_pos h', if_pos h', if_neg i10, if_pos rfl]; exact ans_err1 r
    · have h' : ¬ (nI d < 0 ∨ 6 < nI d) := h'
      rw [if_neg h', if_neg h', if_pos rfl, if_neg i10]
      obtain ⟨K, k1, k2, k3⟩ := least_of (fun j => (nN (m 87) + j) % 16 = p ∧ (nN (m 87) + j) % 7 = d) ((49 * p + 64 * d + 112 - nN (m 87) % 112) % 112) (by constructor <;> omega)
      obtain ⟨a1, a2⟩ := falls_loop r (by omega) (by omega) K (by omega) k2 K jN 0 (by omega) (by unfold jN; omega) (fun j _ hj => k3 j hj)
      rw [show (0 : Int32) = nI 0 from rfl, a1, a2]
      exact ⟨_, _, _, rfl, rfl, r⟩

/-! MORE ACTS -/
theorem zadd (x : Int32) : 0 + x = x := by simp
theorem sRT_one (A : Nat → Int32) (cell : Nat) (hc : cell < 24) : ∀ k, k ≤ 24 → sRT A ((1 : Int32) <<< (nI cell &&& 31)) k = if cell < k then sRent A cell else 0
  | 0, _ => by unfold sRT; simp
  | k + 1, hk => by
    have ih := sRT_one A cell hc k (by omega)
    unfold sRT
    rw [ih, b_one cell (by omega) (by omega)]
    by_cases e : k = cell
    · subst e
      simp
    · rw [if_neg (by simpa using e)]
      by_cases q : cell < k
      · rw [if_pos q, if_pos (by omega)]
      · rw [if_neg q, if_neg (by omega)]
theorem act_ofCell {c m : JMu} (r : R c m) (x w : Int32) : Ans (f8_ofCell x w c) (f9_ofCell x w m) := by
  have g := r.2.1
  have n9 := r.2.2.1
  have e0 : c 1 0 = nI (nN (m 87)) := r.1.1.trans (g_0 g).1
  have er : jrem (nI (nN (m 87))) 16 = sPh (nN (m 87)) := rem_nI (d := 16) (by omega) (by omega) (by omega)
  unfold f8_ofCell f9_ofCell f9_ofCell_b16
  rw [outside_eq, isCell_eq, ob, ob]
  rcases rng x 0 23 (by omega) (by omega) with h | ⟨h, k, -, h2, rfl⟩
  · have h : x < 0 ∨ 23 < x := h
    rw [if_pos h, if_pos h, if_neg i10, if_pos rfl]; exact ans_err1 r
  · have h : ¬ (nI k < 0 ∨ 23 < nI k) := h
    rw [if_neg h, if_neg h, if_pos rfl, if_neg i10, within_eq, ob]
    rcases rng w 0 3 (by omega) (by omega) with h3 | ⟨h3, q, -, h4, rfl⟩
    · have n0 : w ≠ 0 ∧ w ≠ 1 ∧ w ≠ 2 ∧ w ≠ 3 := by
        refine ⟨?_, ?_, ?_, ?_⟩ <;> (rintro rfl; revert h3; decide)
      have h3 : w < 0 ∨ 3 < w := h3
      rw [if_neg n0.1, if_neg n0.2.1, if_neg n0.2.2.1, if_neg n0.2.2.2, if_pos h3, if_pos rfl]; exact ans_err1 r
    · have h3 : ¬ (nI q < 0 ∨ 3 < nI q) := h3
      rw [if_neg h3, if_neg i10, e0, er]
      have : q = 0 ∨ q = 1 ∨ q = 2 ∨ q = 3 := by omega
      rcases this with rfl | rfl | rfl | rfl
      · rw [if_pos (by decide), if_pos (by decide), litNow_eq g]
        unfold sPh
        rw [(lit_c _ (by omega)).1]
        exact ⟨_, _, _, rfl, rfl, r⟩
      · obtain ⟨c', a1, a2, a3⟩ := seenIn_eq jH1 r.1 g (n := nN (m 87)) (by omega)
        obtain ⟨m', b1, b2, b3⟩ := seenNow_eq g
        rw [if_neg (by decide), if_pos (by decide), if_neg (by decide), if_pos (by decide), a1, b1]
        exact ⟨_, _, _, rfl, rfl, R_look r a2 a3 b2 b3⟩
      · obtain ⟨c', a1, a2, a3⟩ := rentT_eq jH1 r.1 g ((1 : Int32) <<< (nI k &&& 31))
        obtain ⟨m', b1, b2, b3⟩ := rentOf_eq g (cell := k) (by omega)
        rw [if_neg (by decide), if_neg (by decide), if_pos (by decide), if_neg (by decide), if_neg (by decide), if_pos (by decide), a1, b1, sRT_one _ k (by omega) 24 (by omega), if_pos (by omega)]
        exact ⟨_, _, _, rfl, rfl, R_look r a2 a3 b2 b3⟩
      · rw [if_neg (by decide), if_neg (by decide), if_neg (by decide), if_pos (by decide), if_neg (by decide), if_neg (by decide), if_neg (by decide), holders_eq jH1 r.1 g, holdersM_eq g (by omega)]
        exact ⟨_, _, _, rfl, rfl, r⟩
theorem act_ofTenant {c m : JMu} (r : R c m) (x w : Int32) : Ans (f8_ofTenant x w c) (f9_ofTenant x w m) := by
  have g := r.2.1
  have g2 := (g_n g).2
  have n9 := r.2.2.1
  have e0 : c 1 0 = nI (nN (m 87)) := r.1.1.trans (g_0 g).1
  unfold f8_ofTenant f9_ofTenant f9_ofTenant_b18 f9_ofTenant_b102
  rcases ten_two r x with ⟨h1, h2⟩ | ⟨t, ht, rfl, h1, h2⟩
  · rw [h1, h2, ob, ob, if_pos rfl]; exact ans_err1 r
  · rw [h1, h2, ob, ob, if_neg i10, within_eq, ob]
    dsimp only
    rcases rng w 0 7 (by omega) (by omega) with h3 | ⟨h3, q, -, h4, rfl⟩
    · have n0 : w ≠ 0 ∧ w ≠ 1 ∧ w ≠ 2 ∧ w ≠ 3 ∧ w ≠ 4 ∧ w ≠ 5 ∧ w ≠ 6 ∧ w ≠ 7 := by
        refine ⟨?_, ?_, ?_, ?_, ?_, ?_, ?_, ?_⟩ <;> (rintro rfl; revert h3; decide)
      have h3 : w < 0 ∨ 7 < w := h3
      rw [if_neg n0.1, if_neg n0.2.1, if_neg n0.2.2.1, if_neg n0.2.2.2.1, if_neg n0.2.2.2.2.1, if_neg n0.2.2.2.2.2.1, if_neg n0.2.2.2.2.2.2.1, if_neg n0.2.2.2.2.2.2.2, if_pos h3, if_pos rfl]; exact ans_err1 r
    · have h3 : ¬ (nI q < 0 ∨ 7 < nI q) := h3
      rw [if_neg h3, if_neg i10, e0]
      have cf : ∀ f, f < 5 → c (1 + 2 + t) f = m 87 (6 + 5 * t + f) := fun f hf => r.1.2.2.2.2.1 t f ht hf
      rw [cf 0 (by omega), cf 1 (by omega), cf 2 (by omega), cf 3 (by omega), cf 4 (by omega)]
      have tO := tn1 (t := t) (by omega)
      have : q = 0 ∨ q = 1 ∨ q = 2 ∨ q = 3 ∨ q = 4 ∨ q = 5 ∨ q = 6 ∨ q = 7 := by omega
      rcases this with rfl | rfl | rfl | rfl | rfl | rfl | rfl | rfl
      · rw [if_pos (by decide), if_pos tO, if_neg (by decide), if_neg (by decide), if_neg (by decide), if_neg (by decide), if_neg (by decide), show f9_tenantIs (nI t) (nI 0) m = _ from ten0 m (by omega)]
        exact ⟨_, _, _, rfl, rfl, r⟩
      · rw [if_neg (by decide), if_pos (by decide), if_pos tO, if_neg (by decide), if_neg (by decide), if_neg (by decide), if_neg (by decide), if_neg (by decide), show f9_tenantIs (nI t) (nI 1) m = _ from ten1 m (by omega)]
        exact ⟨_, _, _, rfl, rfl, r⟩
      · rw [if_neg (by decide), if_neg (by decide), if_pos (by decide), if_pos tO, if_neg (by decide), if_neg (by decide), if_neg (by decide), if_neg (by decide), if_neg (by decide), show f9_tenantIs (nI t) (nI 2) m = _ from ten2 m (by omega)]
        exact ⟨_, _, _, rfl, rfl, r⟩
      · rw [if_neg (by decide), if_neg (by decide), if_neg (by decide), if_pos (by decide), if_pos tO, if_pos (by decide), ten3 m (by omega)]
        exact ⟨_, _, _, rfl, rfl, r⟩
      · rw [if_neg (by decide), if_neg (by decide), if_neg (by decide), if_neg (by decide), if_pos (by decide), if_pos tO]
        rcases g_e g ht with e | e
        · rw [e, if_pos rfl, if_neg (by decide), if_pos (by decide), show f9_tenantIs (nI t) (nI 4) m = _ from ten4 m (by omega), e]
          exact ⟨_, _, _, rfl, rfl, r⟩
        · rw [e, if_neg i10, if_neg (by decide), if_pos (by decide), show f9_tenantIs (nI t) (nI 4) m = _ from ten4 m (by omega), e]
          exact ⟨_, _, _, rfl, rfl, r⟩
      · rw [if_neg (by decide), if_neg (by decide), if_neg (by decide), if_neg (by decide), if_neg (by decide), if_pos (by decide), if_pos tO, looksIn_eq jH1 r.1 g ht (by omega), if_neg (by decide), if_neg (by decide), if_pos (by decide), looks_eq g ht, ob, ob]
        by_cases e : sLook (m 87) t (nN (m 87)) = 0
        · rw [if_pos e, if_pos e]; exact ⟨_, _, _, rfl, rfl, r⟩
        · rw [if_neg e, if_neg e]; exact ⟨_, _, _, rfl, rfl, r⟩
      · obtain ⟨c', a1, a2, a3⟩ := seenIn_eq jH1 r.1 g (n := nN (m 87)) (by omega)
        obtain ⟨m', b1, b2, b3⟩ := seenNow_eq g
        rw [if_neg (by decide), if_neg (by decide), if_neg (by decide), if_neg (by decide), if_neg (by decide), if_neg (by decide), if_pos (by decide), if_pos tO, if_neg (by decide), if_neg (by decide), if_neg (by decide), if_pos (by decide), ten2 m (by omega), a1, b1]
        exact ⟨_, _, _, rfl, rfl, R_look r a2 a3 b2 b3⟩
      · obtain ⟨c', a1, a2, a3, a4, a5⟩ := owesC_eq jH1 r.1 g ht
        obtain ⟨m', b1, b2, b3⟩ := owesM_eq g ht
        rw [if_neg (by decide), if_neg (by decide), if_neg (by decide), if_neg (by decide), if_neg (by decide), if_neg (by decide), if_neg (by decide), if_pos (by decide), if_pos tO, if_neg (by decide), if_neg (by decide), if_neg (by decide), if_neg (by decide), if_pos (by decide), show m 87 (6 + 5 * t + 2) = tL (m 87) t from rfl, a1, ob]
        dsimp only
        rw [a2, ob, a3, b1]
        exact ⟨_, _, _, rfl, rfl, R_look r a4 a5 b2 b3⟩
-- one who comes
def newT (A : Nat → Int32) (q : Nat) : Nat → Int32 :=
  up1 (up1 (up1 (up1 (up1 (up1 A (6 + 5 * nT A + 0) (nI (q / 10))) (6 + 5 * nT A + 1) (nI (q % 10))) (6 + 5 * nT A + 2) 0) (6 + 5 * nT A + 3) 0) (6 + 5 * nT A + 4) 0) 1 (nI (nT A + 1))
theorem newT_T (A : Nat → Int32) (q : Nat) (h : nT A ≤ 5) : nT (newT A q) = nT A + 1 := by
  unfold nT newT; rw [up1_self, nI_clamp (by show nT A + 1 < _; omega)]; rfl
theorem newT_ne (A : Nat → Int32) (q : Nat) {j : Nat} (h1 : j ≠ 1) (h : j < 6 + 5 * nT A ∨ 11 + 5 * nT A ≤ j) : newT A q j = A j := by
  unfold newT
  rw [up1_ne _ _ h1, up1_ne _ _ (by omega), up1_ne _ _ (by omega), up1_ne _ _ (by omega), up1_ne _ _ (by omega), up1_ne _ _ (by omega)]
theorem newT_0 (A : Nat → Int32) (q : Nat) : newT A q (6 + 5 * nT A + 0) = nI (q / 10) := by
  unfold newT
  rw [up1_ne _ _ (by omega), up1_ne _ _ (by omega), up1_ne _ _ (by omega), up1_ne _ _ (by omega), up1_ne _ _ (by omega), up1_self]
theorem newT_1 (A : Nat → Int32) (q : Nat) : newT A q (6 + 5 * nT A + 1) = nI (q % 10) := by
  unfold newT
  rw [up1_ne _ _ (by omega), up1_ne _ _ (by omega), up1_ne _ _ (by omega), up1_ne _ _ (by omega), up1_self]
theorem newT_2 (A : Nat → Int32) (q : Nat) : newT A q (6 + 5 * nT A + 2) = 0 := by
  unfold newT
  rw [up1_ne _ _ (by omega), up1_ne _ _ (by omega), up1_ne _ _ (by omega), up1_self]
theorem newT_3 (A : Nat → Int32) (q : Nat) : newT A q (6 + 5 * nT A + 3) = 0 := by
  unfold newT
  rw [up1_ne _ _ (by omega), up1_ne _ _ (by omega), up1_self]
theorem newT_4 (A : Nat → Int32) (q : Nat) : newT A q (6 + 5 * nT A + 4) = 0 := by
  unfold newT
  rw [up1_ne _ _ (by omega), up1_self]
theorem TXA_cong {A B : Nat → Int32} {a : Nat} {L : List Nat} (h : TXA A a L) (e : ∀ j, a ≤ j → j ≤ a + 50 → B j = A j) : TXA B a L := by
  obtain ⟨h1, h2, h3, h4⟩ := h
  exact ⟨by rw [e a (by omega) (by omega)]; exact h1, h2, fun k hk => by rw [e _ (by omega) (by omega)]; exact h3 k hk, h4⟩
theorem GA_new {A : Nat → Int32} (g : GA A) (h5 : nT A ≤ 5) {q : Nat} (hq : q ≤ 69) : GA (newT A q) := by
  obtain ⟨h1, h2, h3, h4, ⟨L0, h5'⟩, ⟨L1, h6⟩, h7, h8⟩ := g
  unfold GA
  rw [newT_T A q h5]
  refine ⟨⟨nT A + 1, by omega, ?_⟩, by rw [newT_ne A q (by omega) (by omega)]; exact h2, by rw [newT_ne A q (by omega) (by omega)]; exact h3, by rw [newT_ne A q (by omega) (by omega)]; exact h4,
    ⟨L0, TXA_cong h5' (fun j j1 j2 => newT_ne A q (by omega) (by omega))⟩, ⟨L1, TXA_cong h6 (fun j j1 j2 => newT_ne A q (by omega) (by omega))⟩, ?_, by rw [newT_ne A q (by omega) (by omega)]; exact h8⟩
  · unfold newT; rw [up1_self]
  · intro t ht
    by_cases e : t = nT A
    · subst e
      rw [show newT A q (6 + 5 * nT A) = _ from newT_0 A q, newT_1, newT_2, newT_3, newT_4]
      exact ⟨⟨q / 10, by omega, rfl⟩, ⟨0, by omega, rfl⟩, Or.inl rfl, ⟨q % 10, by omega, rfl⟩, by decide⟩
    · rw [newT_ne A q (by omega) (by omega), newT_ne A q (by omega) (by omega), newT_ne A q (by omega) (by omega), newT_ne A q (by omega) (by omega), newT_ne A q (by omega) (by omega)]
      exact h7 t (by omega)
theorem cdL_c {A B : Nat → Int32} {a : Nat} (hl : (A a).toNatClampNeg ≤ 50) (h : ∀ j, a ≤ j → j ≤ a + 50 → B j = A j) : cdL B a = cdL A a := by
  unfold cdL
  rw [h a (by omega) (by omega)]
  apply List.map_congr_left
  intro j hj
  have : j < (A a).toNatClampNeg := by simpa using hj
  rw [h (a + 1 + j) (by omega) (by omega)]
theorem HC_new {c : JMu} {A : Nat → Int32} (hc : HC c 1 A) (g : GA A) (h5 : nT A ≤ 5) (q : Nat) {c' : JMu}
    (e : ∀ p j, ¬ (p = 1 ∧ j = 3) → ¬ (p = 3 + nT A ∧ j < 5) → c' p j = c p j) (e3 : c' 1 3 = nI (nT A + 1)) (f0 : c' (3 + nT A) 0 = nI (q / 10)) (f1 : c' (3 + nT A) 1 = nI (q % 10)) (f2 : c' (3 + nT A) 2 = 0) (f3 : c' (3 + nT A) 3 = 0) (f4 : c' (3 + nT A) 4 = 0) : HC c' 1 (newT A q) := by
  obtain ⟨a1, a2, a3, a4, a5, a6, a7, a8, a9, a10, ⟨a11, a12⟩, a13, ⟨a14, a15⟩⟩ := hc
  obtain ⟨w1, w2⟩ := g_w g
  obtain ⟨b1, b2⟩ := g_b g
  have x0 := cdL_c (A := A) (B := newT A q) (a := 106) (by rw [(g_x0 g).1, nI_clamp (by have := (g_x0 g).2.1; omega)]; exact (g_x0 g).2.1) (fun j j1 j2 => newT_ne A q (by omega) (by omega))
  have x1 := cdL_c (A := A) (B := newT A q) (a := 158) (by rw [(g_x1 g).1, nI_clamp (by have := (g_x1 g).2.1; omega)]; exact (g_x1 g).2.1) (fun j j1 j2 => newT_ne A q (by omega) (by omega))
  have tB : nB (newT A q) = nB A := by unfold nB; rw [newT_ne A q (by omega) (by omega)]
  have tW : nW (newT A q) = nW A := by unfold nW; rw [newT_ne A q (by omega) (by omega)]
  unfold HC TXC
  rw [newT_T A q h5, x0, x1, tB, tW]
  refine ⟨?_, ?_, ?_, ?_, ?_, ?_, ?_, ?_, ?_, ?_, ⟨?_, ?_⟩, ?_, ⟨?_, ?_⟩⟩
  · rw [e _ _ (by omega) (by omega), newT_ne A q (by omega) (by omega)]; exact a1
  · rw [e _ _ (by omega) (by omega), newT_ne A q (by omega) (by omega)]; exact a2
  · rw [e _ _ (by omega) (by omega), newT_ne A q (by omega) (by omega)]; exact a3
  · rw [e3]; unfold newT; rw [up1_self]
  · intro t f ht hf
    by_cases et : t = nT A
    · subst et
      rw [show 1 + 2 + nT A = 3 + nT A by omega]
      have : f = 0 ∨ f = 1 ∨ f = 2 ∨ f = 3 ∨ f = 4 := by omega
      rcases this with rfl | rfl | rfl | rfl | rfl
      · rw [f0, newT_0]
      · rw [f1, newT_1]
      · rw [f2, newT_2]
      · rw [f3, newT_3]
      · rw [f4, newT_4]
    · rw [e _ _ (by omega) (by omega), newT_ne A q (by omega) (by omega)]; exact a5 t f (by omega) hf
  · rw [e _ _ (by omega) (by omega), newT_ne A q (by omega) (by omega)]; exact a6
  · intro i hi
    rw [e _ _ (by omega) (by omega), newT_ne A q (by omega) (by omega)]; exact a7 i hi
  · rw [e _ _ (by omega) (by omega), newT_ne A q (by omega) (by omega)]; exact a8
  · intro i hi
    rw [e _ _ (by omega) (by omega), newT_ne A q (by omega) (by omega)]; exact a9 i hi
  · rw [e _ _ (by omega) (by omega)]; exact a10
  · rw [e _ _ (by omega) (by omega)]; exact a11
  · intro i hi; rw [e _ _ (by omega) (by omega)]; exact a12 i hi
  · rw [e _ _ (by omega) (by omega)]; exact a13
  · rw [e _ _ (by omega) (by omega)]; exact a14
  · intro i hi; rw [e _ _ (by omega) (by omega)]; exact a15 i hi
theorem act_tenant {c m : JMu} (r : R c m) (km : Int32) : Ans (f8_tenant km c) (f9_tenant km m) := by
  have g := r.2.1
  obtain ⟨g1, g2⟩ := g_n g
  have hn : c 1 3 = nI (nT (m 87)) := r.1.2.2.2.1.trans g1
  unfold f8_tenant f9_tenant
  rw [isNoKind_eq, isKindM_eq, ob, ob]
  rcases rng km 0 69 (by omega) (by omega) with h | ⟨h, q, h3, h4, rfl⟩
  · have h : km < 0 ∨ 69 < km := h
    rw [if_pos h, if_pos h, if_neg i10, if_pos rfl]; exact ans_err1 r
  · have h : ¬ (nI q < 0 ∨ 69 < nI q) := h
    rw [if_neg h, if_neg h, if_pos rfl, if_neg i10, show nI q / (10 : Int32) = nI (q / 10) from pk_div (by omega) (d := 10) (by omega) (by omega), show jrem (nI q) (10 : Int32) = nI (q % 10) from rem_nI (by omega) (d := 10) (by omega) (by omega)]
    unfold f0_takeIn f0_takeIn_b19
    rw [if_pos (hs_obj jH1), hn, if_neg (nI_pos (by omega)), (hs_rf jH1).1, if_pos (hs_all jH1).1, (hs_all jH1).2, g1]
    by_cases e : nT (m 87) = 6
    · rw [if_neg (by show ¬ nI (nT (m 87)) < nI 6; rw [ltI (by omega) (by omega)]; omega), if_pos (by rw [e]; rfl)]
      unfold f0_takeIn_b32
      dsimp only
      rw [ob]
      dsimp only
      rw [if_neg (by decide)]
      exact ans_err4 r
    · rw [if_pos (by show nI (nT (m 87)) < nI 6; rw [ltI (by omega) (by omega)]; omega), if_pos (jin_nI (by omega) (by omega)), if_neg (by show ¬ nI (nT (m 87)) = nI 6; rw [nI_eq (by omega) (by omega)]; exact e), nI_clamp (by omega), (hs_el jH1 _ (by omega)).1]
      unfold f0_takeIn_b32 f9_comes
      dsimp only
      rw [if_pos (tn1 (by omega)), g1]
      have a0 : f9_at (nI (nT (m 87))) 0 = some (nI (6 + 5 * nT (m 87) + 0)) := at_eq _ 0
      have a1 : f9_at (nI (nT (m 87))) 1 = some (nI (6 + 5 * nT (m 87) + 1)) := at_eq _ 1
      rw [a0, a1, at2, at3, at4]
      rw [ob, ob, ob, ob, ob, ob, if_pos (jin_nI (by omega) (by omega)), if_pos (jin_nI (by omega) (by omega)), if_pos (jin_nI (by omega) (by omega)), if_pos (jin_nI (by omega) (by omega)), if_pos (jin_nI (by omega) (by omega)),
        nI_clamp (by omega), nI_clamp (by omega), nI_clamp (by omega), nI_clamp (by omega), nI_clamp (by omega)]
      rw [show nI q / (10 : Int32) = nI (q / 10) from pk_div (by omega) (d := 10) (by omega) (by omega), show jrem (nI q) (10 : Int32) = nI (q % 10) from rem_nI (by omega) (d := 10) (by omega) (by omega)]
      have o3 : ∀ (μ : JMu) (j : Nat) (v : Int32), jup μ (1 + 2 + nT (m 87)) j v 1 3 = μ 1 3 := fun μ j v => by rw [jup_row (by omega)]
      have o1 : ∀ (μ : JMu) (j : Nat) (v : Int32), jup μ 87 (6 + 5 * nT (m 87) + j) v 87 1 = μ 87 1 := fun μ j v => by rw [jup_col (by omega)]
      rw [o3, o3, o3, o3, o3, o1, o1, o1, o1, o1, hn, g1, nI_1, jup_self, nI_pred]
      dsimp only
      rw [if_pos (nI_pos' (by omega)), ob]
      dsimp only
      refine ⟨_, _, _, rfl, rfl, ?_⟩
      have m87 : (jup (jup (jup (jup (jup (jup m 87 (6 + 5 * nT (m 87) + 0) (nI (q / 10))) 87 (6 + 5 * nT (m 87) + 1) (nI (q % 10))) 87 (6 + 5 * nT (m 87) + 2) 0) 87 (6 + 5 * nT (m 87) + 3) 0) 87 (6 + 5 * nT (m 87) + 4) 0) 87 1 (nI (nT (m 87) + 1))) 87 = newT (m 87) q := by
        rw [jup_rs, jup_rs, jup_rs, jup_rs, jup_rs, jup_rs]; rfl
      refine R_now r ?_ (by rw [m87]; exact GA_new g (by omega) (by omega)) ?_ ?_ ?_
      · rw [m87]
        refine HC_new r.1 g (by omega) q ?_ ?_ ?_ ?_ ?_ ?_ ?_
        · intro p j h1 h2
          have cases2 : ∀ (μ : JMu) (p' k : Nat) (v : Int32), ¬ (p = p' ∧ j = k) → jup μ p' k v p j = μ p j := fun μ p' k v hh => if_neg hh
          rw [cases2 _ _ _ _ h1, cases2 _ _ _ _ (by omega), cases2 _ _ _ _ (by omega), cases2 _ _ _ _ (by omega), cases2 _ _ _ _ (by omega), cases2 _ _ _ _ (by omega)]
        · rw [jup_self]
        all_goals (rw [show 3 + nT (m 87) = 1 + 2 + nT (m 87) by omega]; simp [jup])
        all_goals (intro; omega)
      · rw [m87]; unfold nN; rw [newT_ne _ q (by omega) (by omega)]; exact r.2.2.1
      · exact eH_tr (eH_tr (eH_tr (eH_tr (eH_tr (eH_up _ _ _ (by omega) (by omega)) (eH_up _ _ _ (by omega) (by omega))) (eH_up _ _ _ (by omega) (by omega))) (eH_up _ _ _ (by omega) (by omega))) (eH_up _ _ _ (by omega) (by omega))) (eH_up _ _ _ (by omega) (by omega))
      · exact eM_tr (eM_tr (eM_tr (eM_tr (eM_tr (eM_up _ _ _) (eM_up _ _ _)) (eM_up _ _ _)) (eM_up _ _ _)) (eM_up _ _ _)) (eM_up _ _ _)

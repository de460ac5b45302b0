theorem clear_loop (m0 : JMu) : ∀ d f x m, x + d = 24 → d < f → (∀ q, q ≠ 96 → m q = m0 q) → (∀ c, c < x → m 96 c = -1) → ∃ m', f9_mostRooms_b2 f (nI x) m = f9_mostRooms_b25 jN 0 0 m' ∧ (∀ q, q ≠ 96 → m' q = m0 q) ∧ (∀ c, c < 24 → m' 96 c = -1) := by
  intro d
  induction d with
  | zero =>
    intro f x m hx hf h1 h2
    obtain ⟨f, rfl⟩ : ∃ q, f = q + 1 := ⟨f - 1, by omega⟩
    refine ⟨m, ?_, h1, fun c hc => h2 c (by omega)⟩
    conv => lhs; unfold f9_mostRooms_b2
    rw [if_pos (by show nI 24 ≤ _; rw [nI_leI (by omega) (by omega)]; omega)]
  | succ d ih =>
    intro f x m hx hf h1 h2
    obtain ⟨f, rfl⟩ : ∃ q, f = q + 1 := ⟨f - 1, by omega⟩
    unfold f9_mostRooms_b2
    rw [if_neg (by show ¬ nI 24 ≤ _; rw [nI_leI (by omega) (by omega)]; omega), if_pos (jin_nI (by omega) (by omega)), nI_clamp (by omega), nI_1]
    refine ih f (x + 1) _ (by omega) (by omega) (fun q hq => by rw [jup_row hq]; exact h1 q hq) (fun c hc => ?_)
    by_cases e : c = x
    · subst e; rw [jup_self]
    · rw [jup_col e]; exact h2 c (by omega)
theorem kuhn_loop {n : Nat} (hn : n ≤ 6) {m0 : JMu} (h1 : m0 87 1 = nI n) : ∀ d f i m k (F D : Nat → Bool), i + d = n → d < f → fK m0 m → HK n m → Cl n m D → (∀ u, u < i → F u = true → (∀ y, y < 24 → Wm m u y = true → D y = true) ∧ cH m u = 0) → (∀ u, u < i → F u = false → cH m u = 1) → (∀ u, i ≤ u → u < n → cH m u = 0) → k + fb_ct F i = i →
    ∃ k' m', f9_mostRooms_b25 f (nI k) (nI i) m = some (nI k', m') ∧ k' ≤ n ∧ fK m0 m' ∧ Mn (Wm m0) n 0 (fun _ => false) k' := by
  intro d
  induction d with
  | zero =>
    intro f i m k F D hi hf fk hk cl hF hM h0 hc
    obtain ⟨f, rfl⟩ : ∃ q, f = q + 1 := ⟨f - 1, by omega⟩
    obtain rfl : i = n := by omega
    refine ⟨k, m, ?_, by omega, fk, ?_⟩
    · unfold f9_mostRooms_b25
      rw [fk.1 87 (by omega) (by omega), h1, if_pos (by rw [nI_leI (by omega) (by omega)]; omega)]
    · have e : Wm m0 = Wm m := by funext u c; exact (fK_W fk u c).symm
      rw [e]
      exact match_min hn hk F D cl hF hM hc
  | succ d ih =>
    intro f i m k F D hi hf fk hk cl hF hM h0 hc
    obtain ⟨f, rfl⟩ : ∃ q, f = q + 1 := ⟨f - 1, by omega⟩
    have f1 : fK m (jup m 86 16 0) := fK_16 m 0
    have r96 : (jup m 86 16 0) 96 = m 96 := jup_row (by omega)
    have z16 : ∀ c, bt ((jup m 86 16 0) 86 16) c = false := fun c => by rw [jup_self]; exact b_0 c
    unfold f9_mostRooms_b25 f9_mostRooms_b54
    rw [fk.1 87 (by omega) (by omega), h1, if_neg (by rw [nI_leI (by omega) (by omega)]; omega), nI_1]
    generalize jup m 86 16 0 = m1 at *
    have W1 : ∀ u c, Wm m1 u c = Wm m u c := fK_W f1
    have c1 : ∀ u, cH m1 u = cH m u := fun u => by unfold cH; rw [r96]
    have HK1 : HK n m1 := by
      intro c hc
      rw [r96]
      rcases hk c hc with h | ⟨u, u1, u2, u3⟩
      · exact Or.inl h
      · exact Or.inr ⟨u, u1, u2, by rw [W1]; exact u3⟩
    have Cl1 : Cl n m1 D := by
      intro c hc q
      obtain ⟨y, y1, y2, y3⟩ := cl c hc q
      exact ⟨y, y1, by rw [r96]; exact y2, fun t ht wt => y3 t ht (by rw [← W1]; exact wt)⟩
    have ul : unm m1 < jK := by
      have : unm m1 ≤ 24 := fb_ct_le _ _
      unfold jK; omega
    obtain ⟨m2, g1, g2, g3, g4⟩ := gets_all hn jK i m1 (by omega) HK1 ul
    have W2 : ∀ u c, Wm m2 u c = Wm m u c := fun u c => (fK_W g1 u c).trans (W1 u c)
    have cF : ∀ b : Bool, fb_ct (fun u => if u = i then b else F u) (i + 1) = fb_ct F i + (if b then 1 else 0) := by
      intro b
      rw [fb_ct_succ, if_pos rfl, fb_ct_out F b (Nat.le_refl i)]
    unfold f9_gets
    rcases g4 with ⟨e, e1, e2, e3⟩ | ⟨e, e1, e2, e3, e4⟩
    · rw [e, ob]
      dsimp only
      rw [if_pos rfl, add0]
      have r2 : m2 96 = m 96 := e1.trans r96
      have c2 : ∀ u, cH m2 u = cH m u := fun u => by unfold cH; rw [r2]
      refine ih f (i + 1) m2 k (fun u => if u = i then true else F u) (fun c => D c || bt (m2 86 16) c) (by omega) (by omega) (fK_tr fk (fK_tr f1 g1)) g2 ?_ ?_ ?_ ?_ ?_
      · intro c hc q
        cases dc : D c
        · simp only [dc, Bool.false_or] at q
          obtain ⟨y, y1, y2, y3⟩ := e3 c hc q (z16 c)
          exact ⟨y, y1, by rw [r2, ← r96]; exact y2, fun t ht wt => by
            have := y3 t ht (by rw [W1, ← W2]; exact wt)
            simp [this]⟩
        · obtain ⟨y, y1, y2, y3⟩ := cl c hc dc
          exact ⟨y, y1, by rw [r2]; exact y2, fun t ht wt => by
            have := y3 t ht (by rw [← W2]; exact wt)
            simp [this]⟩
      · intro u hu q
        by_cases ui : u = i
        · subst ui
          exact ⟨fun y hy wy => by
            have := e2 y hy (by rw [W1, ← W2]; exact wy)
            simp [this], by rw [c2]; exact h0 u (Nat.le_refl _) (by omega)⟩
        · simp only [ui, if_false] at q
          obtain ⟨a, b⟩ := hF u (by omega) q
          exact ⟨fun y hy wy => by
            have := a y hy (by rw [← W2]; exact wy)
            simp [this], by rw [c2]; exact b⟩
      · intro u hu q
        by_cases ui : u = i
        · simp [ui] at q
        · simp only [ui, if_false] at q
          rw [c2]; exact hM u (by omega) q
      · intro u hu hun
        rw [c2]; exact h0 u (by omega) hun
      · rw [cF true, if_pos rfl]; omega
    · rw [e, ob]
      dsimp only
      rw [if_neg i10, nI_1]
      obtain ⟨-, keep⟩ := e4 D Cl1
      refine ih f (i + 1) m2 (k + 1) (fun u => if u = i then false else F u) D (by omega) (by omega) (fK_tr fk (fK_tr f1 g1)) g2 ?_ ?_ ?_ ?_ ?_
      · intro c hc q
        obtain ⟨y, y1, y2, y3⟩ := cl c hc q
        exact ⟨y, y1, by rw [keep c hc q, r96]; exact y2, fun t ht wt => y3 t ht (by rw [← W2]; exact wt)⟩
      · intro u hu q
        by_cases ui : u = i
        · simp [ui] at q
        · simp only [ui, if_false] at q
          obtain ⟨a, b⟩ := hF u (by omega) q
          refine ⟨fun y hy wy => a y hy (by rw [← W2]; exact wy), ?_⟩
          rw [e3 u (by omega), c1, b, if_neg ui]
      · intro u hu q
        by_cases ui : u = i
        · subst ui
          rw [e3 u (by omega), c1, h0 u (Nat.le_refl _) (by omega), if_pos rfl]
        · simp only [ui, if_false] at q
          rw [e3 u (by omega), c1, hM u (by omega) q, if_neg ui]
      · intro u hu hun
        rw [e3 u hun, c1, h0 u (by omega) hun, if_neg (by omega)]
      · rw [cF false]
        have : (if (false : Bool) = true then (1 : Nat) else 0) = 0 := rfl
        rw [this]; omega
theorem mostRooms_eq {n : Nat} (hn : n ≤ 6) {m : JMu} (h1 : m 87 1 = nI n) : ∃ k m', f9_mostRooms m = some (nI k, m') ∧ k ≤ n ∧ fK m m' ∧ Mn (Wm m) n 0 (fun _ => false) k := by
  obtain ⟨m1, a1, a2, a3⟩ := clear_loop m 24 jN 0 m (by omega) (by unfold jN; omega) (fun _ _ => rfl) (fun c hc => by omega)
  have f1 : fK m m1 := ⟨fun q h1 h2 => a2 q h2, fun j _ => by rw [a2 86 (by omega)]⟩
  have c0 : ∀ u, u < n → cH m1 u = 0 := fun u hu => fb_ct_zero.mpr (fun c hc => by
    rw [a3 c hc]
    exact decide_eq_false (fun h => nI_nm1 (k := u) (by omega) h.symm))
  unfold f9_mostRooms
  rw [show (0 : Int32) = nI 0 from rfl, a1]
  exact kuhn_loop hn h1 n jN 0 m1 0 (fun _ => false) (fun _ => false) (by omega) (by unfold jN; omega) f1 (fun c hc => Or.inl (a3 c hc)) (fun c _ q => absurd (show false = true from q) (by decide)) (fun u hu => by omega) (fun u hu => by omega) (fun u _ hu => c0 u hu) rfl

theorem unm_le {m m' : JMu} (h : ∀ c, c < 24 → bt (m 86 16) c = true → bt (m' 86 16) c = true) : unm m' ≤ unm m := ct_incl (fun c hc q => by
  cases e : bt (m 86 16) c
  · rfl
  · rw [h c hc e] at q; exact absurd q (by decide))
theorem HK_up {n v x : Nat} {m : JMu} (h : HK n m) (hx : x < 24) (hv : v < n) (w : Wm m v x = true) : HK n (jup m 96 x (nI v)) := by
  intro c hc
  have e : ∀ u c, Wm (jup m 96 x (nI v)) u c = Wm m u c := fK_W (fK_96 m x _)
  rw [jup_at]
  by_cases q : c = x
  · rw [if_pos q, q]; exact Or.inr ⟨v, hv, rfl, by rw [e]; exact w⟩
  · rw [if_neg q]
    rcases h c hc with h | ⟨u, u1, u2, u3⟩
    · exact Or.inl h
    · exact Or.inr ⟨u, u1, u2, by rw [e]; exact u3⟩
theorem gets_loop {n k v : Nat} (hn : n ≤ 6) (ih : GSpec n k) (hv : v < n) {m0 : JMu} (hk0 : HK n m0) (hu : unm m0 < k + 1) : ∀ d f x m, x + d = 24 → d < f → fK m0 m → m 96 = m0 96 → (∀ c, c < 24 → bt (m0 86 16) c = true → bt (m 86 16) c = true) → (∀ c, c < x → Wm m0 v c = true → bt (m 86 16) c = true) →
    (∀ c, c < 24 → bt (m 86 16) c = true → bt (m0 86 16) c = false → ∃ u, u < n ∧ m0 96 c = nI u ∧ ∀ y, y < 24 → Wm m0 u y = true → bt (m 86 16) y = true) →
    ∃ m', fK m0 m' ∧ HK n m' ∧ (∀ c, c < 24 → bt (m0 86 16) c = true → bt (m' 86 16) c = true) ∧ ((f9_gets_b2 (gf9_gets k) f (nI v) (nI x) m = some (0, m') ∧ GoodF n v m0 m') ∨ (f9_gets_b2 (gf9_gets k) f (nI v) (nI x) m = some (1, m') ∧ GoodS n v m0 m')) := by
  intro d
  induction d with
  | zero =>
    intro f x m hx hf h1 h2 h3 h4 h5
    obtain ⟨f, rfl⟩ : ∃ q, f = q + 1 := ⟨f - 1, by omega⟩
    obtain rfl : x = 24 := by omega
    refine ⟨m, h1, ?_, h3, Or.inl ⟨?_, h2, h4, h5⟩⟩
    · intro c hc
      rw [h2]
      rcases hk0 c hc with h | ⟨u, u1, u2, u3⟩
      · exact Or.inl h
      · exact Or.inr ⟨u, u1, u2, by rw [fK_W h1]; exact u3⟩
    · unfold f9_gets_b2
      rw [if_pos (by decide)]
  | succ d ihd =>
    intro f x m hx hf h1 h2 h3 h4 h5
    obtain ⟨f, rfl⟩ : ∃ q, f = q + 1 := ⟨f - 1, by omega⟩
    have x24 : x < 24 := by omega
    have skip : (Wm m0 v x = true → bt (m 86 16) x = true) → f9_gets_b2 (gf9_gets k) (f + 1) (nI v) (nI x) m = f9_gets_b2 (gf9_gets k) f (nI v) (nI (x + 1)) m → ∃ m', fK m0 m' ∧ HK n m' ∧ (∀ c, c < 24 → bt (m0 86 16) c = true → bt (m' 86 16) c = true) ∧ ((f9_gets_b2 (gf9_gets k) (f + 1) (nI v) (nI x) m = some (0, m') ∧ GoodF n v m0 m') ∨ (f9_gets_b2 (gf9_gets k) (f + 1) (nI v) (nI x) m = some (1, m') ∧ GoodS n v m0 m')) := by
      intro w e
      rw [e]
      refine ihd f (x + 1) m (by omega) (by omega) h1 h2 h3 (fun c hc wc => ?_) h5
      by_cases q : c = x
      · subst q; exact w wc
      · exact h4 c (by omega) wc
    have w95 : m 95 v = m0 95 v := by rw [h1.1 95 (by omega) (by omega)]
    have un : f9_gets_b2 (gf9_gets k) (f + 1) (nI v) (nI x) m = if Wm m0 v x = true then (if bt (m 86 16) x = true then f9_gets_b2 (gf9_gets k) f (nI v) (nI (x + 1)) m else
        (if m 96 x < 0 then some (1, jup (jup m 86 16 (m 86 16 ||| ((1 : Int32) <<< (nI x &&& 31)))) 96 x (nI v)) else Option.bind (gf9_gets k (m 96 x) (jup m 86 16 (m 86 16 ||| ((1 : Int32) <<< (nI x &&& 31))))) fun r20 => if r20.1 = 0 then f9_gets_b2 (gf9_gets k) f (nI v) (nI (x + 1)) r20.2 else some (1, jup r20.2 96 x (nI v))))
        else f9_gets_b2 (gf9_gets k) f (nI v) (nI (x + 1)) m := by
      conv => lhs; unfold f9_gets_b2 f9_gets_b66
      have j24 : jin (nI x) 24 = true := jin_nI x24 (by omega)
      have k24 : ¬ (24 : Int32) ≤ nI x := by show ¬ nI 24 ≤ _; rw [nI_leI (by omega) (by omega)]; omega
      rw [if_neg k24, if_pos (jin_nI (by omega) (by omega)), nI_clamp (n := v) (by omega), w95, hasBit_eq _ x (by omega), ob, hasBit_eq _ x (by omega), ob, nI_1, nI_clamp (n := x) (by omega), jup_row (q := 96) (by omega)]
      simp only [j24, if_true]
      unfold Wm
      cases bt (m0 95 v) x
      · simp
      · cases bt (m 86 16) x
        · simp
        · simp
    by_cases w : Wm m0 v x = true
    · by_cases mt : bt (m 86 16) x = true
      · exact skip (fun _ => mt) (by rw [un, if_pos w, if_pos mt])
      · have mt' : bt (m 86 16) x = false := by simpa using mt
        have m0x : bt (m0 86 16) x = false := by
          cases q : bt (m0 86 16) x
          · rfl
          · rw [h3 x x24 q] at mt'; exact absurd mt' (by decide)
        have mark := fun c (hc : c < 24) => met_bt m x24 (c := c) (by omega)
        have unmark := unm_mark m x24 mt'
        have f1 : fK m0 (jup m 86 16 (m 86 16 ||| ((1 : Int32) <<< (nI x &&& 31)))) := fK_tr h1 (fK_16 m _)
        have r96 : (jup m 86 16 (m 86 16 ||| ((1 : Int32) <<< (nI x &&& 31)))) 96 = m0 96 := by rw [jup_row (by omega)]; exact h2
        rw [if_pos w, if_neg mt, h2] at un
        generalize jup m 86 16 (m 86 16 ||| ((1 : Int32) <<< (nI x &&& 31))) = m1 at *
        have W1 : ∀ u c, Wm m1 u c = Wm m0 u c := fK_W f1
        have HK1 : HK n m1 := by
          intro c hc
          rw [r96]
          rcases hk0 c hc with h | ⟨u, u1, u2, u3⟩
          · exact Or.inl h
          · exact Or.inr ⟨u, u1, u2, by rw [W1]; exact u3⟩
        have in1 : ∀ c, c < 24 → bt (m 86 16) c = true → bt (m1 86 16) c = true := fun c hc q => by rw [mark c hc, q]; rfl
        have cH1 : ∀ u, cH m1 u = cH m0 u := fun u => by unfold cH; rw [r96]
        rcases hk0 x x24 with free | ⟨u, u1, u2, u3⟩
        · rw [free, if_pos (by decide)] at un
          refine ⟨jup m1 96 x (nI v), fK_tr f1 (fK_96 m1 _ _), HK_up HK1 x24 hv (by rw [W1]; exact w), ?_, Or.inr ⟨un, ?_, ?_, ?_, ?_⟩⟩
          · intro c hc q
            rw [jup_row (by omega)]; exact in1 c hc (h3 c hc q)
          · intro c hc q
            have : c ≠ x := by rintro rfl; rw [m0x] at q; exact absurd q (by decide)
            rw [jup_col this, r96]
          · intro c hc q
            by_cases e : c = x
            · subst e; exact absurd free q
            · rw [jup_col e, r96]; exact q
          · intro y hy
            have := cH_up m1 x24 v y (by omega) (by omega)
            rw [r96, free, if_neg (fun h => nI_nm1 (k := y) (by omega) h.symm), cH1] at this
            rw [Nat.add_zero] at this
            rw [this]
            by_cases e : y = v
            · subst e; simp
            · rw [if_neg e, if_neg (fun h => e h.symm)]
          · intro D hD
            have nx : D x ≠ true := by
              intro q
              obtain ⟨u, uu, u2, -⟩ := hD x x24 q
              rw [free] at u2
              exact nI_nm1 (k := u) (by omega) u2.symm
            refine ⟨fun h => nx (h x x24 w), fun c hc q => ?_⟩
            have : c ≠ x := by rintro rfl; exact nx q
            rw [jup_col this, r96]
        · rw [u2, if_neg (nI_pos (by omega))] at un
          have le := unm_le h3
          obtain ⟨m2, g1, g2, g3, g4⟩ := ih u m1 u1 HK1 (by omega)
          have f2 := fK_tr f1 g1
          have W2 : ∀ u c, Wm m2 u c = Wm m0 u c := fK_W f2
          rcases g4 with ⟨e, e1, e2, e3⟩ | ⟨e, e1, e2, e3, e4⟩
          · rw [e, ob] at un
            dsimp only at un
            rw [if_pos rfl] at un
            rw [un]
            refine ihd f (x + 1) m2 (by omega) (by omega) f2 (e1.trans r96) (fun c hc q => g3 c hc (in1 c hc (h3 c hc q))) (fun c hc wc => ?_) (fun c hc q1 q2 => ?_)
            · by_cases z : c = x
              · subst z; exact g3 c x24 (by rw [mark c x24]; simp)
              · exact g3 c (by omega) (in1 c (by omega) (h4 c (by omega) wc))
            · cases z : bt (m1 86 16) c
              · obtain ⟨y, y1, y2, y3⟩ := e3 c hc q1 z
                exact ⟨y, y1, by rw [← r96]; exact y2, fun t ht wt => y3 t ht (by rw [W1]; exact wt)⟩
              · rw [mark c hc] at z
                by_cases cx : c = x
                · subst cx
                  exact ⟨u, u1, u2, fun t ht wt => e2 t ht (by rw [W1]; exact wt)⟩
                · have mc : bt (m 86 16) c = true := by simpa [cx] using z
                  obtain ⟨y, y1, y2, y3⟩ := h5 c hc mc q2
                  exact ⟨y, y1, y2, fun t ht wt => g3 t ht (in1 t ht (y3 t ht wt))⟩
          · rw [e, ob] at un
            dsimp only at un
            rw [if_neg i10] at un
            have xm : bt (m1 86 16) x = true := by rw [mark x x24]; simp
            have x96 : m2 96 x = nI u := by rw [e1 x x24 xm, r96]; exact u2
            refine ⟨jup m2 96 x (nI v), fK_tr f2 (fK_96 m2 _ _), HK_up g2 x24 hv (by rw [W2]; exact w), ?_, Or.inr ⟨un, ?_, ?_, ?_, ?_⟩⟩
            · intro c hc q
              rw [jup_row (by omega)]; exact g3 c hc (in1 c hc (h3 c hc q))
            · intro c hc q
              have : c ≠ x := by rintro rfl; rw [m0x] at q; exact absurd q (by decide)
              rw [jup_col this, e1 c hc (in1 c hc (h3 c hc q)), r96]
            · intro c hc q
              by_cases z : c = x
              · subst z; rw [jup_self]; exact nI_nm1 (by omega)
              · rw [jup_col z]; exact e2 c hc (by rw [r96]; exact q)
            · intro y hy
              have t1 := cH_up m2 x24 v y (by omega) (by omega)
              have t2 := e3 y hy
              rw [cH1] at t2
              rw [x96, t2] at t1
              have t3 : (if nI u = nI y then 1 else 0) = (if y = u then 1 else 0) := by
                by_cases z : y = u
                · subst z; simp
                · rw [if_neg z, if_neg (by rw [nI_eq (by omega) (by omega)]; exact fun h => z h.symm)]
              have t4 : (if v = y then 1 else 0) = (if y = v then 1 else 0) := by
                by_cases z : y = v
                · subst z; simp
                · rw [if_neg z, if_neg (fun h => z h.symm)]
              omega
            · intro D hD
              have hD1 : Cl n m1 D := by
                intro c hc q
                obtain ⟨y, y1, y2, y3⟩ := hD c hc q
                exact ⟨y, y1, by rw [r96]; exact y2, fun t ht wt => y3 t ht (by rw [← W1]; exact wt)⟩
              obtain ⟨s1, s2⟩ := e4 D hD1
              have nx : D x ≠ true := by
                intro q
                obtain ⟨y, y1, y2, y3⟩ := hD x x24 q
                rw [u2, nI_eq (by omega) (by omega)] at y2
                subst y2
                exact s1 (fun t ht wt => y3 t ht (by rw [← W1]; exact wt))
              refine ⟨fun h => nx (h x x24 w), fun c hc q => ?_⟩
              have : c ≠ x := by rintro rfl; exact nx q
              rw [jup_col this, s2 c hc q, r96]
    · exact skip (fun h => absurd h w) (by rw [un, if_neg w])
theorem gets_all {n : Nat} (hn : n ≤ 6) : ∀ k, GSpec n k
  | 0 => fun v m _ _ h => by omega
  | k + 1 => by
    intro v m hv hk hu
    exact gets_loop hn (gets_all hn k) hv hk hu 24 jN 0 m (by omega) (by unfold jN; omega) (fK_rf m) rfl (fun _ _ q => q) (fun c hc => by omega) (fun c hc q1 q2 => by rw [q2] at q1; exact absurd q1 (by decide))

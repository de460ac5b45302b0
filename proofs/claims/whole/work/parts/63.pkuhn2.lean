theorem unm_le {m m' : JMu} (h : ∀ c, c < 24 → bt (m 86 16) c = true → bt (m' 86 16) c = true) : unm m' ≤ unm m := ct_incl (fun c hc q => by
  cases e : bt (m 86 16) c
  · rfl
  · rw [h c hc e] at q; exact absurd q (by decide))
theorem HK_up {n v x : Nat} {m : JMu} (h : HK n m) (hx : x < 24) (hv : v < n) (w : Wm m v x = true) : HK n (jup m 96 x (nI v)) := by
  intro c hc
  have e : ∀ u c, Wm (jup m 96 x (nI v)) u c = Wm m u c := fK_W (fK_96 m x _)
  rw [jup_at]
  by_cases q : c = x
  · rw [if_pos q, q]; exact Or.inr ⟨v, hv, rfl, by rw [e]; exact w⟩
  · rw [if_neg q]
    rcases h c hc with h | ⟨u, u1, u2, u3⟩
    · exact Or.inl h
    · exact Or.inr ⟨u, u1, u2, by rw [e]; exact u3⟩
theorem gets_loop {n k v : Nat} (hn : n ≤ 6) (ih : GSpec n k) (hv : v < n) {m0 : JMu} (hk0 : HK n m0) (hu : unm m0 < k + 1) : ∀ d f x m, x + d = 24 → d < f → fK m0 m → m 96 = m0 96 → (∀ c, c < 24 → bt (m0 86 16) c = true → bt (m 86 16) c = true) → (∀ c, c < x → Wm m0 v c = true → bt (m 86 16) c = true) →
    (∀ c, c < 24 → bt (m 86 16) c = true → bt (m0 86 16) c = false → ∃ u, u < n ∧ m0 96 c = nI u ∧ ∀ y, y < 24 → Wm m0 u y = true → bt (m 86 16) y = true) →
    ∃ m', fK m0 m' ∧ HK n m' ∧ (∀ c, c < 24 → bt (m0 86 16) c = true → bt (m' 86 16) c = true) ∧ ((f9_gets_b2 (gf9_gets k) f (nI v) (nI x) m = some (0, m') ∧ GoodF n v m0 m') ∨ (f9_gets_b2 (gf9_gets k) f (nI v) (nI x) m = some (1, m') ∧ GoodS n v m0 m')) := by
  intro d
  induction d with
  | zero =>
    intro f x m hx hf h1 h2 h3 h4 h5
    obtain ⟨f, rfl⟩ : ∃ q, f = q + 1 := ⟨f - 1, by omega⟩
    obtain rfl : x = 24 := by omega
    refine ⟨m, h1, ?_, h3, Or.inl ⟨?_, h2, h4, h5⟩⟩
    · intro c hc
      rw [h2]
      rcases hk0 c hc with h | ⟨u, u1, u2, u3⟩
      · exact Or.inl h
      · exact Or.inr ⟨u, u1, u2, by rw [fK_W h1]; exact u3⟩
    · unfold f9_gets_b2
      rw [if_pos (by decide)]
  | succ d ihd =>
    intro f x m hx hf h1 h2 h3 h4 h5
    obtain ⟨f, rfl⟩ : ∃ q, f = q + 1 := ⟨f - 1, by omega⟩
    have x24 : x < 24 := by omega
    have skip : (Wm m0 v x = true → bt (m 86 16) x = true) → f9_gets_b2 (gf9_gets k) (f + 1) (nI v) (nI x) m = f9_gets_b2 (gf9_gets k) f (nI v) (nI (x + 1)) m → ∃ m', fK m0 m' ∧ HK n m' ∧ (∀ c, c < 24 → bt (m0 86 16) c = true → bt (m' 86 16) c = true) ∧ ((f9_gets_b2 (gf9_gets k) (f + 1) (nI v) (nI x) m = some (0, m') ∧ GoodF n v m0 m') ∨ (f9_gets_b2 (gf9_gets k) (f + 1) (nI v) (nI x) m = some (1, m') ∧ GoodS n v m0 m')) := by
      intro w e
      rw [e]
      refine ihd f (x + 1) m (by omega) (by omega) h1 h2 h3 (fun c hc wc => ?_) h5
      by_cases q : c = x
      · subst q; exact w wc
      · exact h4 c (by omega) wc
    have w95 : m 95 v = m0 95 v := by rw [h1.1 95 (by omega) (by omega)]
    have un : f9_gets_b2 (gf9_gets k) (f + 1) (nI v) (nI x) m = if Wm m0 v x = true then (if bt (m 86 16) x = true then f9_gets_b2 (gf9_gets k) f (nI v) (nI (x + 1)) m else
        (if m 96 x < 0 then some (1, jup (jup m 86 16 (m 86 16 ||| ((1 : Int32) <<< (nI x &&& 31)))) 96 x (nI v)) else Option.bind (gf9_gets k (m 96 x) (jup m 86 16 (m 86 16 ||| ((1 : Int32) <<< (nI x &&& 31))))) fun r20 => if r20.1 = 0 then f9_gets_b2 (gf9_gets k) f (nI v) (nI (x + 1)) r20.2 else some (1, jup r20.2 96 x (nI v))))
        else f9_gets_b2 (gf9_gets k) f (nI v) (nI (x + 1)) m := by
      conv => lhs; unfold f9_gets_b2 f9_gets_b66
      have j24 : jin (nI x) 24 = true := jin_nI x24 (by omega)
      have k24 : ¬ (24 : Int32) ≤ nI x := by show ¬ nI 24 ≤ _; rw [nI_leI (by omega) (by omega)]; omega
      rw [if_neg k24, if_pos (jin_nI (by omega) (by omega)), nI_clamp (n := v) (by omega), w95, hasBit_eq _ x (by omega), ob, hasBit_eq _ x (by omega), ob, nI_1, nI_clamp (n := x) (by omega), jup_row (q := 96) (by omega)]
      simp only [j24, if_true]
      unfold Wm
      cases bt (m0 95 v) x
      · simp
      · cases bt (m 86 16) x
        · simp
        · simp
    by_cases w : Wm m0 v x = true
    · by_cases mt : bt (m 86 16) x = true
      · exact skip (fun _ => mt) (by rw [un, if_pos w, if_pos mt])
      · sorry
    · exact skip (fun h => absurd h w) (by rw [un, if_neg w])

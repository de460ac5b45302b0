/-! ROOMS: one more, one less -/
def orC (T : Nat → Bool) (x : Nat) : Nat → Bool := fun c => T c || decide (c = x)
theorem ct_or1 (p : Nat → Bool) (x : Nat) (hx : x < 24) : fb_ct (fun c => p c && !decide (c = x)) 24 + (if p x then 1 else 0) = fb_ct p 24 := by
  have h := fb_ct_upd p false (i := x) (n := 24) hx
  have e : fb_ct (fun c => p c && !decide (c = x)) 24 = fb_ct (fun k => if k = x then false else p k) 24 := fb_ct_cong (fun k _ => by
    by_cases q : k = x
    · simp [q]
    · simp [q])
  have z : (if (false : Bool) = true then (1 : Nat) else 0) = 0 := rfl
  rw [z] at h
  rw [e]
  omega
theorem nT_or (W : Nat → Nat → Bool) (g T : Nat → Bool) (n x : Nat) (hx : x < 24) : nT' W g (orC T x) n + (if nb W g n x && !T x then 1 else 0) = nT' W g T n := by
  have h := ct_or1 (fun c => nb W g n c && !T c) x hx
  have e : nT' W g (orC T x) n = fb_ct (fun c => (nb W g n c && !T c) && !decide (c = x)) 24 := fb_ct_cong (fun c _ => by
    unfold orC
    cases nb W g n c <;> cases T c <;> cases decide (c = x) <;> rfl)
  rw [e]; exact h
theorem one_less {W : Nat → Nat → Bool} {n i k d : Nat} {T : Nat → Bool} (hi : i < n) (hk : Mn W n i T k) (hd : Mn W n (i + 1) T d) : k = d ∨ k = d + 1 := by
  obtain ⟨a, g, g1, g2⟩ := hk
  obtain ⟨b, f, f1, f2⟩ := hd
  have u := a f (fun j hj => f1 j (by omega))
  have l : d ≤ k := by
    have e := b (fun j => g j && decide (i + 1 ≤ j)) (fun j hj => by
      have : decide (i + 1 ≤ j) = false := decide_eq_false (by omega)
      rw [this, Bool.and_false])
    have c1 : fb_ct g n ≤ fb_ct (fun j => g j && decide (i + 1 ≤ j)) n + 1 := by
      have h := fb_ct_upd g false (i := i) (n := n) hi
      have e : fb_ct (fun k => if k = i then false else g k) n ≤ fb_ct (fun j => g j && decide (i + 1 ≤ j)) n := ct_incl (fun j _ hj => by
        by_cases q : j = i
        · rw [if_pos q] at hj; exact absurd hj (by decide)
        · rw [if_neg q] at hj
          have : i < j := by
            apply Nat.lt_of_le_of_ne _ (fun h => q h.symm)
            apply Nat.le_of_not_lt
            intro hh
            rw [g1 j hh] at hj; exact absurd hj (by decide)
          have : decide (i + 1 ≤ j) = true := decide_eq_true this
          rw [hj, this]; rfl)
      have : (if g i = true then 1 else 0) ≤ 1 := by split <;> omega
      have z : (if (false : Bool) = true then (1 : Nat) else 0) = 0 := rfl
      rw [z] at h
      omega
    have c2 : nT' W (fun j => g j && decide (i + 1 ≤ j)) T n ≤ nT' W g T n := ct_incl (fun c _ h => by
      simp only [Bool.and_eq_true] at h ⊢
      obtain ⟨j, j1, j2, j3⟩ := (nb_iff _ _ _ _).mp h.1
      simp only [Bool.and_eq_true] at j2
      exact ⟨(nb_iff _ _ _ _).mpr ⟨j, j1, j2.1, j3⟩, h.2⟩)
    omega
  omega
/-- if no cell of i's gives as many, i is not needed -/
theorem no_cell {W : Nat → Nat → Bool} {n i k d : Nat} {T : Nat → Bool} (hi : i < n) (hk : Mn W n i T k) (hd : Mn W n (i + 1) T d)
    (h : ∀ x, x < 24 → W i x = true → T x = false → ∃ e, Mn W n (i + 1) (orC T x) e ∧ 1 + e ≠ k) : k = d := by
  rcases one_less hi hk hd with e | e
  · exact e
  exfalso
  obtain ⟨b, f, f1, f2⟩ := hd
  have cover : ∀ m, m ≤ 24 → ∃ g : Nat → Bool, (∀ j, j < i + 1 → g j = false) ∧ (n - (i + 1)) + nT' W g T n ≤ d + fb_ct g n ∧ ∀ x, x < m → W i x = true → T x = false → nb W g n x = true := by
    intro m
    induction m with
    | zero => intro _; exact ⟨f, f1, f2, fun x hx => by omega⟩
    | succ m ih =>
      intro hm
      obtain ⟨g, g1, g2, g3⟩ := ih (by omega)
      by_cases q : W i m = true ∧ T m = false
      · obtain ⟨e', ⟨p1, f', p2, p3⟩, p4⟩ := h m (by omega) q.1 q.2
        have o1 := nT_or W f' T n m (by omega)
        have b1 := b f' p2
        have o2 := nT_or W g T n m (by omega)
        have b2 := p1 g g1
        have hit : nb W f' n m = true := by
          cases z : nb W f' n m
          · exfalso
            rw [z] at o1
            simp at o1
            have : e' ≤ d := by
              have o3 := nT_or W f T n m (by omega)
              have b3 := p1 f f1
              omega
            omega
          · rfl
        have t1 : (n - (i + 1)) + nT' W f' T n ≤ d + fb_ct f' n := by
          have : (if (nb W f' n m && !T m) = true then 1 else 0) ≤ 1 := by split <;> omega
          have : e' ≤ d := by
            have o3 := nT_or W f T n m (by omega)
            have b3 := p1 f f1
            omega
          omega
        refine ⟨fun j => g j || f' j, fun j hj => by show (g j || f' j) = false; rw [g1 j hj, p2 j hj]; rfl, tight_or b g1 p2 g2 t1, fun x hx w1 w2 => ?_⟩
        rw [nb_or]
        by_cases z : x = m
        · subst z; rw [hit]; simp
        · rw [g3 x (by omega) w1 w2]; rfl
      · refine ⟨g, g1, g2, fun x hx w1 w2 => ?_⟩
        by_cases z : x = m
        · subst z; exact absurd ⟨w1, w2⟩ q
        · exact g3 x (by omega) w1 w2
  obtain ⟨g, g1, g2, g3⟩ := cover 24 (Nat.le_refl _)
  obtain ⟨a, -⟩ := hk
  have u := a (fun j => g j || decide (j = i)) (fun j hj => by
    have : decide (j = i) = false := decide_eq_false (by omega)
    show (g j || decide (j = i)) = false
    rw [g1 j (by omega), this]; rfl)
  have c1 : fb_ct (fun j => g j || decide (j = i)) n = fb_ct g n + 1 := by
    have h := fb_ct_upd g true (i := i) (n := n) hi
    have e : fb_ct (fun j => g j || decide (j = i)) n = fb_ct (fun k => if k = i then true else g k) n := fb_ct_cong (fun j _ => by
      by_cases q : j = i
      · simp [q]
      · simp [q])
    rw [e]
    have gi := g1 i (by omega)
    have z0 : (if (false : Bool) = true then (1 : Nat) else 0) = 0 := rfl
    have z1 : (if (true : Bool) = true then (1 : Nat) else 0) = 1 := rfl
    rw [gi, z0, z1] at h
    omega
  have c2 : nT' W (fun j => g j || decide (j = i)) T n ≤ nT' W g T n := ct_incl (fun c hc h => by
    simp only [Bool.and_eq_true] at h ⊢
    obtain ⟨j, j1, j2, j3⟩ := (nb_iff _ _ _ _).mp h.1
    refine ⟨?_, h.2⟩
    by_cases q : j = i
    · subst q
      exact g3 c hc j3 (by simpa using h.2)
    · have : g j = true := by simpa [q] using j2
      exact (nb_iff _ _ _ _).mpr ⟨j, j1, this, j3⟩)
  omega

/-! ROOMS: the matching's size is the minimum -/
theorem single_gen {W : Nat → Nat → Bool} (N : Nat) : ∀ (n : Nat) (g : Nat → Bool), (∀ j, j < n → g j = true → fb_ct (W j) N ≤ 1) → fb_ct (nb W g n) N ≤ fb_ct g n
  | 0, g, _ => by
    have : fb_ct (nb W g 0) N = 0 := fb_ct_zero.mpr (fun _ _ => rfl)
    omega
  | n + 1, g, h => by
    have ih := single_gen N n g (fun j hj => h j (by omega))
    have u := ct_uni (nb W g n) (fun c => g n && W n c) N
    have e : fb_ct (nb W g (n + 1)) N = fb_ct (fun c => nb W g n c || (g n && W n c)) N := fb_ct_cong (fun _ _ => rfl)
    rw [e, fb_ct_succ g n]
    by_cases q : g n = true
    · have w := h n (by omega) q
      have z : fb_ct (fun c => g n && W n c) N = fb_ct (W n) N := fb_ct_cong (fun _ _ => by rw [q]; rfl)
      rw [if_pos q]
      omega
    · have z : fb_ct (fun c => g n && W n c) N = 0 := fb_ct_zero.mpr (fun _ _ => by rw [show g n = false by simpa using q]; rfl)
      rw [if_neg q]
      omega
/-- a matching, and what can't be matched, give the minimum -/
theorem match_min {n k : Nat} {m : JMu} (hn : n ≤ 6) (hk : HK n m) (F D : Nat → Bool) (cl : Cl n m D) (hF : ∀ f, f < n → F f = true → (∀ y, y < 24 → Wm m f y = true → D y = true) ∧ cH m f = 0) (hM : ∀ u, u < n → F u = false → cH m u = 1) (hc : k + fb_ct F n = n) : Mn (Wm m) n 0 (fun _ => false) k := by
  have one : ∀ u, u < n → cH m u ≤ 1 := by
    intro u hu
    cases q : F u
    · rw [hM u hu q]; exact Nat.le_refl _
    · rw [(hF u hu q).2]; omega
  constructor
  · intro g _
    have s := single_gen (W := fun c u => decide (m 96 c = nI u)) n 24 (fun c => nb (Wm m) g n c) (fun c _ _ => by
      -- a cell holds one
      apply Nat.le_of_not_lt
      intro h2
      obtain ⟨i, i1, i2, i3⟩ := fb_ct_kth (p := fun u => decide (m 96 c = nI u)) (k := 0) (n := n) (by omega)
      obtain ⟨j, j1, j2, j3⟩ := fb_ct_kth (p := fun u => decide (m 96 c = nI u)) (k := 1) (n := n) (by omega)
      simp only [decide_eq_true_eq] at i2 j2
      rw [i2, nI_eq (by omega) (by omega)] at j2
      rw [j2] at i3
      omega)
    have cov : fb_ct (fun u => g u && !F u) n ≤ fb_ct (nb (fun c u => decide (m 96 c = nI u)) (fun c => nb (Wm m) g n c) 24) n := ct_incl (fun u hu q => by
      simp only [Bool.and_eq_true, Bool.not_eq_true'] at q
      have h1 := hM u hu q.2
      obtain ⟨c, c1, c2⟩ := fb_ct_pos.mp (show 0 < fb_ct (fun c => decide (m 96 c = nI u)) 24 by unfold cH at h1; omega)
      simp only [decide_eq_true_eq] at c2
      refine (nb_iff _ _ _ _).mpr ⟨c, c1, ?_, by simp [c2]⟩
      rcases hk c c1 with h | ⟨w, w1, w2, w3⟩
      · rw [h] at c2; exact absurd c2.symm (nI_nm1 (by omega))
      · rw [c2, nI_eq (by omega) (by omega)] at w2
        exact (nb_iff _ _ _ _).mpr ⟨u, hu, q.1, by rw [w2]; exact w3⟩)
    have spl := ct_uni (fun u => g u && !F u) (fun u => g u && F u) n
    have al : fb_ct g n ≤ fb_ct (fun u => (g u && !F u) || (g u && F u)) n := ct_incl (fun u _ q => by cases F u <;> simp [q])
    have fl : fb_ct (fun u => g u && F u) n ≤ fb_ct F n := ct_incl (fun u _ q => by simp only [Bool.and_eq_true] at q; exact q.2)
    have fin : nT' (Wm m) g (fun _ => false) n = fb_ct (nb (Wm m) g n) 24 := fb_ct_cong (fun c _ => by simp)
    have eta : fb_ct (fun c => nb (Wm m) g n c) 24 = fb_ct (nb (Wm m) g n) 24 := rfl
    omega
  · -- the failed, and those who hold what is dead
    have hH : ∀ u, u < n → (fb_ct (fun c => D c && decide (m 96 c = nI u)) 24) ≤ 1 := fun u hu => Nat.le_trans (ct_incl (fun c _ q => by simp only [Bool.and_eq_true] at q; exact q.2)) (one u hu)
    have s := single_gen (W := fun u c => D c && decide (m 96 c = nI u)) 24 n (fun u => decide (0 < fb_ct (fun c => D c && decide (m 96 c = nI u)) 24)) (fun u hu _ => hH u hu)
    have cov : fb_ct D 24 ≤ fb_ct (nb (fun u c => D c && decide (m 96 c = nI u)) (fun u => decide (0 < fb_ct (fun c => D c && decide (m 96 c = nI u)) 24)) n) 24 := ct_incl (fun c hc q => by
      obtain ⟨u, u1, u2, -⟩ := cl c hc q
      refine (nb_iff _ _ _ _).mpr ⟨u, u1, ?_, by simp [q, u2]⟩
      exact decide_eq_true (fb_ct_pos.mpr ⟨c, hc, by simp [q, u2]⟩))
    refine ⟨fun u => F u || decide (0 < fb_ct (fun c => D c && decide (m 96 c = nI u)) 24), fun j hj => by omega, ?_⟩
    have dis : fb_ct (fun u => F u || decide (0 < fb_ct (fun c => D c && decide (m 96 c = nI u)) 24)) n = fb_ct F n + fb_ct (fun u => decide (0 < fb_ct (fun c => D c && decide (m 96 c = nI u)) 24)) n := fb_ct_or (fun u hu h => by
      simp only [decide_eq_true_eq] at h
      have z := (hF u hu h.1).2
      have : fb_ct (fun c => D c && decide (m 96 c = nI u)) 24 ≤ cH m u := ct_incl (fun c _ q => by simp only [Bool.and_eq_true] at q; exact q.2)
      omega)
    have nD : nT' (Wm m) (fun u => F u || decide (0 < fb_ct (fun c => D c && decide (m 96 c = nI u)) 24)) (fun _ => false) n ≤ fb_ct D 24 := ct_incl (fun c hc q => by
      simp only [Bool.and_eq_true] at q
      obtain ⟨u, u1, u2, u3⟩ := (nb_iff _ _ _ _).mp q.1
      simp only [Bool.or_eq_true, decide_eq_true_eq] at u2
      rcases u2 with u2 | u2
      · exact (hF u u1 u2).1 c hc u3
      · obtain ⟨y, y1, y2⟩ := fb_ct_pos.mp u2
        simp only [Bool.and_eq_true, decide_eq_true_eq] at y2
        obtain ⟨w, w1, w2, w3⟩ := cl y y1 y2.1
        rw [y2.2, nI_eq (by omega) (by omega)] at w2
        exact w3 c hc (by rw [← w2]; exact u3))
    omega

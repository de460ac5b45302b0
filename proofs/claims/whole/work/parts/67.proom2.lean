/-! ROOMS: settled one by one -/
def oneOf (x : Int32) : Int32 := if x < 0 then 0 else (1 : Int32) <<< (x &&& 31)
theorem oneOf_nI {y : Nat} (hy : y < 24) : oneOf (nI y) = (1 : Int32) <<< (nI y &&& 31) := by unfold oneOf; rw [if_neg (nI_pos (by omega))]
theorem oneOf_bt {y c : Nat} (hy : y < 24) (hc : c < 32) : bt (oneOf (nI y)) c = decide (c = y) := by rw [oneOf_nI hy, b_one y (by omega) hc]
theorem oneOf_no : oneOf (-1) = 0 := by decide
theorem oneOf_eq {x y : Nat} (hx : x < 24) (hy : y < 24) : oneOf (nI y) = (1 : Int32) <<< (nI x &&& 31) ↔ x = y := by
  constructor
  · intro h
    have := congrArg (fun z => bt z x) h
    rw [oneOf_bt hy (by omega), b_one x (by omega) (by omega)] at this
    simpa using this
  · rintro rfl; exact oneOf_nI hy
theorem one_n0 {x : Nat} (hx : x < 24) : ¬ (0 : Int32) = (1 : Int32) <<< (nI x &&& 31) := by
  intro h
  have := congrArg (fun z => bt z x) h
  rw [b_0, b_one x (by omega) (by omega)] at this
  simp at this
theorem and_one (a : Int32) {x : Nat} (hx : x < 24) : a &&& ((1 : Int32) <<< (nI x &&& 31)) = if bt a x then oneOf (nI x) else 0 := by
  apply b_ext
  intro i hi
  rw [b_and, b_one x (by omega) hi]
  by_cases e : i = x
  · subst e
    cases q : bt a i
    · simp [b_0]
    · simp [oneOf_bt hx hi]
  · cases q : bt a x
    · simp [e, b_0]
    · simp [e, oneOf_bt hx hi]
theorem ct_orC (T : Nat → Bool) {y : Nat} (hy : y < 24) (h : T y = false) : fb_ct (orC T y) 24 = fb_ct T 24 + 1 := by
  have := ct_or1 (orC T y) y hy
  rw [if_pos (by simp [orC])] at this
  rw [← this]
  congr 1
  apply fb_ct_cong
  intro k hk
  by_cases e : k = y
  · subst e; simp [h]
  · simp [orC, e]
theorem ct_one (y : Nat) : ∀ n, fb_ct (fun c => decide (c = y)) n ≤ 1
  | 0 => Nat.zero_le _
  | n + 1 => by
    rw [fb_ct_succ]
    by_cases e : n = y
    · subst e
      have : fb_ct (fun c => decide (c = n)) n = 0 := fb_ct_zero.mpr (fun k hk => decide_eq_false (by omega))
      rw [this]; split <;> omega
    · have := ct_one y n
      rw [if_neg (by simpa using e)]; omega
/-- what the class finds for each -/
def RF (c : JMu) (n i : Nat) : Prop := ∃ K, K ≤ n ∧ Mn (Wb (c 71)) n i (bt (rT c i)) K ∧ ((∃ y, y < 24 ∧ rR c i = nI y ∧ Pcell (c 71) n i (rT c i) K y ∧ ∀ z, z < y → ¬ Pcell (c 71) n i (rT c i) K z) ∨ (rR c i = -1 ∧ ∀ z, z < 24 → ¬ Pcell (c 71) n i (rT c i) K z))
theorem rf_all {c : JMu} {n i : Nat} (hn : n ≤ 6) (hi : i < n) (h : c 70 1 = nI n) (hS : ∀ j, j < n → ∀ x, 24 ≤ x → bt (c 71 j) x = false) : RF c n i := by
  obtain ⟨K, k1, k2, q⟩ := first_eq hn hi h hS (rT c i)
  refine ⟨K, k1, k2, ?_⟩
  rcases q with ⟨y, y1, y2, y3, y4⟩ | ⟨y2, y4⟩
  · exact Or.inl ⟨y, y1, by unfold rR; rw [y2]; rfl, y3, y4⟩
  · exact Or.inr ⟨by unfold rR; rw [y2]; rfl, y4⟩
theorem rT_or (c : JMu) (i : Nat) : rT c (i + 1) = rT c i ||| oneOf (rR c i) := by
  rw [rT_s]
  unfold oneOf
  by_cases e : rR c i < 0
  · rw [if_pos e, if_pos e]; simp
  · rw [if_neg e, if_neg e]
theorem rT_bt (c : JMu) (x : Nat) : ∀ i, bt (rT c i) x = true ↔ ∃ j, j < i ∧ bt (oneOf (rR c j)) x = true
  | 0 => by
    constructor
    · intro h
      have : bt (rT c 0) x = false := b_0 x
      rw [this] at h; exact absurd h (by decide)
    · rintro ⟨j, h, -⟩; omega
  | i + 1 => by
    rw [rT_or, b_or, Bool.or_eq_true, rT_bt c x i]
    constructor
    · rintro (⟨j, h1, h2⟩ | h)
      · exact ⟨j, by omega, h2⟩
      · exact ⟨i, by omega, h⟩
    · rintro ⟨j, h1, h2⟩
      by_cases e : j = i
      · subst e; exact Or.inr h2
      · exact Or.inl ⟨j, by omega, h2⟩
/-- no two ahead have the same; alone or not -/
theorem alone0 (m : JMu) {t : Nat} (ht : t < 6) : ∀ d f o, o + d = t → d < f → f9_isAlone_b4 f (nI t) 0 (nI o) m = some 0 := by
  intro d
  induction d with
  | zero =>
    intro f o ho hf
    obtain ⟨f, rfl⟩ : ∃ q, f = q + 1 := ⟨f - 1, by omega⟩
    unfold f9_isAlone_b4
    rw [if_pos (by rw [nI_leI (by omega) (by omega)]; omega), if_pos (Or.inl rfl)]
  | succ d ih =>
    intro f o ho hf
    obtain ⟨f, rfl⟩ : ∃ q, f = q + 1 := ⟨f - 1, by omega⟩
    unfold f9_isAlone_b4 f9_isAlone_b32 f9_isAlone_b33
    rw [if_neg (by rw [nI_leI (by omega) (by omega)]; omega), if_pos rfl, nI_1]
    exact ih f (o + 1) (by omega) (by omega)
theorem alone1 (m : JMu) {t : Nat} (ht : t < 6) : ∀ d f o, o + d = t → d < f →
    ((∃ u, o ≤ u ∧ u < t ∧ m 95 u = m 95 t) ∧ f9_isAlone_b4 f (nI t) 1 (nI o) m = some 0) ∨ ((∀ u, o ≤ u → u < t → ¬ m 95 u = m 95 t) ∧ f9_isAlone_b4 f (nI t) 1 (nI o) m = some 1) := by
  intro d
  induction d with
  | zero =>
    intro f o ho hf
    obtain ⟨f, rfl⟩ : ∃ q, f = q + 1 := ⟨f - 1, by omega⟩
    refine Or.inr ⟨fun u h1 h2 => by omega, ?_⟩
    unfold f9_isAlone_b4
    rw [if_pos (by rw [nI_leI (by omega) (by omega)]; omega), if_pos (Or.inr rfl)]
  | succ d ih =>
    intro f o ho hf
    obtain ⟨f, rfl⟩ : ∃ q, f = q + 1 := ⟨f - 1, by omega⟩
    have un : f9_isAlone_b4 (f + 1) (nI t) 1 (nI o) m = if m 95 o = m 95 t then f9_isAlone_b4 f (nI t) 0 (nI (o + 1)) m else f9_isAlone_b4 f (nI t) 1 (nI (o + 1)) m := by
      conv => lhs; unfold f9_isAlone_b4 f9_isAlone_b32 f9_isAlone_b33
      rw [if_neg (by rw [nI_leI (by omega) (by omega)]; omega), if_neg i10, if_pos (jin_nI (by omega) (by omega)), if_pos (jin_nI (by omega) (by omega)), nI_clamp (by omega), nI_clamp (by omega), nI_1]
    by_cases e : m 95 o = m 95 t
    · refine Or.inl ⟨⟨o, by omega, by omega, e⟩, ?_⟩
      rw [un, if_pos e]
      exact alone0 m ht d f (o + 1) (by omega) (by omega)
    · rw [un, if_neg e]
      rcases ih f (o + 1) (by omega) (by omega) with ⟨⟨u, u1, u2, u3⟩, q⟩ | ⟨u1, q⟩
      · exact Or.inl ⟨⟨u, by omega, u2, u3⟩, q⟩
      · refine Or.inr ⟨fun u h1 h2 => ?_, q⟩
        by_cases eu : u = o
        · rw [eu]; exact e
        · exact u1 u (by omega) h2
def SF (m1 m : JMu) : Prop := (∀ q, q ≠ 86 → q ≠ 95 → q ≠ 96 → m q = m1 q) ∧ (∀ j, j ≠ 16 → m 86 j = m1 86 j)
def SJ (c m1 m : JMu) (t : Nat) : Prop := SF m1 m ∧ (∀ j, t < j → m 95 j = m1 95 j) ∧ (∀ j, j < t → m 95 j = oneOf (rR c j))
theorem SF_fK {m1 m m' : JMu} (h : SF m1 m) (f : fK m m') : SF m1 m' := ⟨fun q h1 h2 h3 => by rw [f.1 q h1 h3]; exact h.1 q h1 h2 h3, fun j hj => by rw [f.2 j hj]; exact h.2 j hj⟩
theorem SJ_fK {c m1 m m' : JMu} {t : Nat} (h : SJ c m1 m t) (f : fK m m') : SJ c m1 m' t :=
  ⟨SF_fK h.1 f, fun j hj => by rw [f.1 95 (by omega) (by omega)]; exact h.2.1 j hj, fun j hj => by rw [f.1 95 (by omega) (by omega)]; exact h.2.2 j hj⟩
theorem SJ_up {c m1 m : JMu} {t : Nat} (h : SJ c m1 m t) (v : Int32) : SJ c m1 (jup m 95 t v) t :=
  ⟨⟨fun q h1 h2 h3 => by rw [jup_row h2]; exact h.1.1 q h1 h2 h3, fun j hj => by rw [jup_row (by omega)]; exact h.1.2 j hj⟩, fun j hj => by rw [jup_col (by omega)]; exact h.2.1 j hj, fun j hj => by rw [jup_col (by omega)]; exact h.2.2 j hj⟩
theorem rr_two {c : JMu} {n i : Nat} (h : RF c n i) : (∃ y, y < 24 ∧ rR c i = nI y) ∨ rR c i = -1 := by
  obtain ⟨K, -, -, ⟨y, y1, y2, -⟩ | ⟨y2, -⟩⟩ := h
  · exact Or.inl ⟨y, y1, y2⟩
  · exact Or.inr y2
theorem rr_ct {c : JMu} {n i : Nat} (h : RF c n i) : fb_ct (bt (oneOf (rR c i))) 24 ≤ 1 := by
  rcases rr_two h with ⟨y, y1, y2⟩ | y2
  · rw [y2]
    have : fb_ct (bt (oneOf (nI y))) 24 = fb_ct (fun c => decide (c = y)) 24 := fb_ct_cong (fun k hk => oneOf_bt y1 (by omega))
    rw [this]; exact ct_one y 24
  · rw [y2, oneOf_no]
    have : fb_ct (bt 0) 24 = 0 := fb_ct_zero.mpr (fun k _ => b_0 k)
    omega
/-- how many, the first t + 1 being settled, the last one at v -/
theorem most_at {c m1 m : JMu} {n t k' e : Nat} {T' : Nat → Bool} (ht : t < n) (rf : ∀ i, i < n → RF c n i) (sj : SJ c m1 m t) (hW : ∀ j, j < n → c 71 j = m1 95 j) (v1 : fb_ct (bt (m 95 t)) 24 ≤ 1)
    (hT : ∀ x, x < 24 → T' x = (bt (rT c t) x || bt (m 95 t) x)) (hk : Mn (Wm m) n 0 (fun _ => false) k') (he : Mn (Wb (c 71)) n (t + 1) T' e) : k' = fb_ct T' 24 + e := by
  have he2 : Mn (Wm m1) n (t + 1) T' e := Mn_cg (fun j hj x _ => by show bt (c 71 j) x = bt (m1 95 j) x; rw [hW j hj]) (fun _ _ => rfl) he
  refine Mn_uniq hk (fixed_min (W := Wm m1) (by omega) ?_ ?_ ?_ he2)
  · intro x hx
    rw [hT x hx, Bool.or_eq_true, rT_bt]
    constructor
    · rintro (⟨j, j1, j2⟩ | h)
      · exact ⟨j, by omega, by show bt (m 95 j) x = true; rw [sj.2.2 j j1]; exact j2⟩
      · exact ⟨t, by omega, h⟩
    · rintro ⟨j, j1, j2⟩
      by_cases q : j = t
      · subst q; exact Or.inr j2
      · have j2' : bt (m 95 j) x = true := j2
        rw [sj.2.2 j (by omega)] at j2'
        exact Or.inl ⟨j, by omega, j2'⟩
  · intro j hj
    by_cases q : j = t
    · subst q; exact v1
    · have : Wm m j = bt (oneOf (rR c j)) := by funext x; show bt (m 95 j) x = _; rw [sj.2.2 j (by omega)]
      rw [this]; exact rr_ct (rf j (by omega))
  · intro j hj
    funext x
    show bt (m 95 j) x = bt (m1 95 j) x
    rw [sj.2.1 j (by omega)]
theorem settle_in {c m1 : JMu} {n t K k0 : Nat} (hn : n ≤ 6) (ht : t < n) (hc : c 70 1 = nI n) (hm : m1 87 1 = nI n) (hS : ∀ j, j < n → ∀ x, 24 ≤ x → bt (c 71 j) x = false) (hW : ∀ j, j < n → c 71 j = m1 95 j)
    (hK : Mn (Wb (c 71)) n t (bt (rT c t)) K) (kk : fb_ct (bt (rT c t)) 24 + K = k0) (k0n : k0 ≤ n) (k2 : Int32 → Int32 → JMu → Option JMu) :
    ∀ d f x m, x + d = 24 → d + 1 < f → SJ c m1 m t → (∀ z, z < x → ¬ Pcell (c 71) n t (rT c t) K z) → ∃ m', f9_settle_b25 k2 f (nI k0) (nI t) (m1 95 t) 0 (nI x) m = k2 (nI k0) (nI (t + 1)) m' ∧ SJ c m1 m' t ∧ m' 95 t = oneOf (rR c t) := by
  have rf : ∀ i, i < n → RF c n i := fun i hi => rf_all hn hi hc hS
  have last : ∀ f v4 y m, 24 < y → y < 100 → f9_settle_b25 k2 (f + 1) (nI k0) (nI t) (m1 95 t) v4 (nI y) m = k2 (nI k0) (nI (t + 1)) m := by
    intro f v4 y m h1 h2
    unfold f9_settle_b25
    rw [if_pos (by show nI 24 < nI y; rw [ltI (by omega) (by omega)]; exact h1), nI_1]
  have stop : ∀ f y m, y ≤ 24 → f9_settle_b25 k2 (f + 1) (nI k0) (nI t) (m1 95 t) 1 (nI y) m = k2 (nI k0) (nI (t + 1)) m := by
    intro f y m h1
    unfold f9_settle_b25
    rw [if_neg (by show ¬ nI 24 < nI y; rw [ltI (by omega) (by omega)]; omega), if_neg i10, nI_1]
  intro d
  induction d with
  | zero =>
    intro f x m hx hf sj np
    obtain ⟨f, rfl⟩ : ∃ q, f = q + 2 := ⟨f - 2, by omega⟩
    obtain rfl : x = 24 := by omega
    have sj1 := SJ_up sj 0
    obtain ⟨k', m', a1, a2, a3, a4⟩ := mostRooms_eq (m := jup m 95 t 0) hn (by rw [sj1.1.1 87 (by omega) (by omega) (by omega)]; exact hm)
    have e24 : (nI 24 : Int32) = 24 := rfl
    refine ⟨m', ?_, SJ_fK sj1 a3, ?_⟩
    · have fin : ∀ k : Int32, f9_settle_b25 k2 (f + 1) (nI k0) (nI t) (m1 95 t) k (nI 25) m' = k2 (nI k0) (nI (t + 1)) m' := fun k => last f k 25 m' (by omega) (by omega)
      have fin' : ∀ k : Int32, f9_settle_b25 k2 (f + 1) (nI k0) (nI t) (m1 95 t) k (nI 24 + 1) m' = k2 (nI k0) (nI (t + 1)) m' := fin
      rw [show f + 2 = (f + 1) + 1 from rfl]
      conv => lhs; unfold f9_settle_b25 f9_settle_b59 f9_settle_b76 f9_settle_b99 f9_settle_b103 f9_settle_b104
      rw [if_neg (by decide), if_pos rfl, if_pos (by decide), if_pos (jin_nI (by omega) (by omega)), if_pos e24, nI_clamp (by omega), a1, ob]
      dsimp only
      rw [fin', fin', if_pos e24]
      split <;> rfl
    · obtain ⟨K', -, q2, q3⟩ := rf t ht
      obtain rfl := Mn_uniq q2 hK
      rw [a3.1 95 (by omega) (by omega), jup_self]
      rcases q3 with ⟨y, y1, y2, y3, y4⟩ | ⟨y2, y3⟩
      · exact absurd y3 (np y y1)
      · rw [y2, oneOf_no]
  | succ d ih =>
    intro f x m hx hf sj np
    obtain ⟨f, rfl⟩ : ∃ q, f = q + 2 := ⟨f - 2, by omega⟩
    have x24 : x < 24 := by omega
    have n24 : ¬ (nI x : Int32) = 24 := by show ¬ nI x = nI 24; rw [nI_eq (by omega) (by omega)]; omega
    have go : ∀ m', SJ c m1 m' t → ¬ Pcell (c 71) n t (rT c t) K x → f9_settle_b25 k2 (f + 2) (nI k0) (nI t) (m1 95 t) 0 (nI x) m = f9_settle_b25 k2 (f + 1) (nI k0) (nI t) (m1 95 t) 0 (nI (x + 1)) m' →
        ∃ m', f9_settle_b25 k2 (f + 2) (nI k0) (nI t) (m1 95 t) 0 (nI x) m = k2 (nI k0) (nI (t + 1)) m' ∧ SJ c m1 m' t ∧ m' 95 t = oneOf (rR c t) := by
      intro m' s1 s2 s3
      rw [s3]
      exact ih (f + 1) (x + 1) m' (by omega) (by omega) s1 (fun z hz => by
        by_cases q : z = x
        · rw [q]; exact s2
        · exact np z (by omega))
    have head : ∀ v, (m1 95 t &&& ((1 : Int32) <<< (nI x &&& 31))) = v → f9_settle_b25 k2 (f + 2) (nI k0) (nI t) (m1 95 t) 0 (nI x) m =
        if v = 0 then f9_settle_b25 k2 (f + 1) (nI k0) (nI t) (m1 95 t) 0 (nI (x + 1)) (jup m 95 t v) else f9_settle_b76 k2 (f9_settle_b25 k2 (f + 1)) (nI k0) (nI t) (m1 95 t) (nI x) (jup m 95 t v) := by
      intro v hv
      rw [show f + 2 = (f + 1) + 1 from rfl]
      conv => lhs; unfold f9_settle_b25 f9_settle_b59 f9_settle_b103 f9_settle_b104
      rw [if_neg (by show ¬ nI 24 < nI x; rw [ltI (by omega) (by omega)]; omega), if_pos rfl, if_neg (by show ¬ nI 24 ≤ nI x; rw [nI_leI (by omega) (by omega)]; omega), if_pos (jin_nI (by omega) (by omega)), if_neg n24, if_pos (jin_nI (by omega) (by omega)), nI_clamp (by omega), jup_self, hv, nI_1]
    by_cases bx : bt (m1 95 t) x = true
    · have vv : (m1 95 t &&& ((1 : Int32) <<< (nI x &&& 31))) = oneOf (nI x) := by rw [and_one _ x24, if_pos bx]
      have v0 : ¬ oneOf (nI x) = 0 := by
        rw [oneOf_nI x24]; exact fun h => one_n0 x24 h.symm
      have sj1 := SJ_up sj (oneOf (nI x))
      have hd := head _ vv
      rw [if_neg v0] at hd
      obtain ⟨k', m', a1, a2, a3, a4⟩ := mostRooms_eq (m := jup m 95 t (oneOf (nI x))) hn (by rw [sj1.1.1 87 (by omega) (by omega) (by omega)]; exact hm)
      have sj2 := SJ_fK sj1 a3
      have m95 : m' 95 t = oneOf (nI x) := by rw [a3.1 95 (by omega) (by omega), jup_self]
      have un : f9_settle_b76 k2 (f9_settle_b25 k2 (f + 1)) (nI k0) (nI t) (m1 95 t) (nI x) (jup m 95 t (oneOf (nI x))) =
          if k' = k0 then Option.bind (f9_isAlone (nI t) m') (fun r19 => if r19 = 0 then f9_settle_b25 k2 (f + 1) (nI k0) (nI t) (m1 95 t) 0 (nI (x + 1)) m' else f9_settle_b25 k2 (f + 1) (nI k0) (nI t) (m1 95 t) 1 (nI (x + 1)) m') else f9_settle_b25 k2 (f + 1) (nI k0) (nI t) (m1 95 t) 0 (nI (x + 1)) m' := by
        unfold f9_settle_b76 f9_settle_b99 f9_settle_b103 f9_settle_b104
        rw [a1, ob]
        dsimp only
        rw [if_neg n24, nI_1]
        by_cases q : k' = k0
        · rw [if_pos q, if_pos (by rw [q])]
        · rw [if_neg q, if_neg (by rw [nI_eq (by omega) (by omega)]; exact q)]
      have al := alone1 m' (t := t) (by omega) t jN 0 (by omega) (by unfold jN; omega)
      by_cases bT : bt (rT c t) x = true
      · -- someone ahead has it
        have np' : ¬ Pcell (c 71) n t (rT c t) K x := fun h => by rw [h.2.1] at bT; exact absurd bT (by decide)
        have al0 : f9_isAlone (nI t) m' = some 0 := by
          rcases al with ⟨-, q⟩ | ⟨q, -⟩
          · exact q
          · exfalso
            obtain ⟨j, j1, j2⟩ := (rT_bt c x t).mp bT
            apply q j (Nat.zero_le _) j1
            rw [m95, sj2.2.2 j j1]
            rcases rr_two (rf j (by omega)) with ⟨y, y1, y2⟩ | y2
            · rw [y2, oneOf_bt y1 (by omega)] at j2
              rw [y2, of_decide_eq_true j2]
            · rw [y2, oneOf_no, b_0] at j2
              exact absurd j2 (by decide)
        refine go m' sj2 np' ?_
        rw [hd, un, al0, ob, if_pos rfl]
        split <;> rfl
      · have bT' : bt (rT c t) x = false := by simpa using bT
        have al1 : f9_isAlone (nI t) m' = some 1 := by
          rcases al with ⟨⟨u, -, u2, u3⟩, -⟩ | ⟨-, q⟩
          · exfalso
            apply bT
            rw [m95, sj2.2.2 u u2] at u3
            exact (rT_bt c x t).mpr ⟨u, u2, by rw [u3, oneOf_bt x24 (by omega)]; simp⟩
          · exact q
        obtain ⟨e, e1, e2, e3⟩ := mostFrom_eq (c := c) hn (i := t + 1) (by omega) hc hS (rT c t ||| ((1 : Int32) <<< (nI x &&& 31)))
        have e4 : Mn (Wb (c 71)) n (t + 1) (orC (bt (rT c t)) x) e := Mn_cg (fun _ _ _ _ => rfl) (fun y hy => bt_orC _ x24 hy) e3
        have sum : k' = fb_ct (orC (bt (rT c t)) x) 24 + e := by
          refine most_at ht rf sj1 hW ?_ ?_ a4 e4
          · rw [jup_self]
            have : fb_ct (bt (oneOf (nI x))) 24 = fb_ct (fun c => decide (c = x)) 24 := fb_ct_cong (fun k hk => oneOf_bt x24 (by omega))
            rw [this]; exact ct_one x 24
          · intro y hy
            rw [jup_self, oneOf_bt x24 (by omega)]; rfl
        rw [ct_orC _ x24 bT'] at sum
        by_cases q : 1 + e = K
        · -- this one
          have pc : Pcell (c 71) n t (rT c t) K x := ⟨by show bt (c 71 t) x = true; rw [hW t ht]; exact bx, bT', e, e4, q⟩
          refine ⟨m', ?_, sj2, ?_⟩
          · rw [hd, un, if_pos (by omega), al1, ob, if_neg i10]
            exact stop f (x + 1) m' (by omega)
          · obtain ⟨K', -, q2, q3⟩ := rf t ht
            obtain rfl := Mn_uniq q2 hK
            rw [m95]
            rcases q3 with ⟨y, y1, y2, y3, y4⟩ | ⟨y2, y3⟩
            · have : y = x := by
                rcases Nat.lt_trichotomy y x with h | h | h
                · exact absurd y3 (np y h)
                · exact h
                · exact absurd pc (y4 x h)
              rw [y2, this]
            · exact absurd pc (y3 x x24)
        · have np' : ¬ Pcell (c 71) n t (rT c t) K x := by
            rintro ⟨-, -, e', p1, p2⟩
            exact q (by rw [Mn_uniq e4 p1]; exact p2)
          refine go m' sj2 np' ?_
          rw [hd, un, if_neg (by omega)]
    · have vv : (m1 95 t &&& ((1 : Int32) <<< (nI x &&& 31))) = 0 := by rw [and_one _ x24, if_neg bx]
      have np' : ¬ Pcell (c 71) n t (rT c t) K x := by
        rintro ⟨p1, -⟩
        apply bx
        have p1' : bt (c 71 t) x = true := p1
        rw [hW t ht] at p1'; exact p1'
      refine go _ (SJ_up sj 0) np' ?_
      rw [head 0 vv, if_pos rfl]
theorem settle_loop {c m1 : JMu} {n k0 : Nat} (hn : n ≤ 6) (hc : c 70 1 = nI n) (hm : m1 87 1 = nI n) (hS : ∀ j, j < n → ∀ x, 24 ≤ x → bt (c 71 j) x = false) (hW : ∀ j, j < n → c 71 j = m1 95 j) (k0n : k0 ≤ n) :
    ∀ d f t m, t + d = n → d < f → SF m1 m → (∀ j, t ≤ j → m 95 j = m1 95 j) → (∀ j, j < t → m 95 j = oneOf (rR c j)) → (∃ K, Mn (Wb (c 71)) n t (bt (rT c t)) K ∧ fb_ct (bt (rT c t)) 24 + K = k0) →
    ∃ m', f9_settle_b2 f (nI k0) (nI t) m = some m' ∧ SF m1 m' ∧ ∀ j, j < n → m' 95 j = oneOf (rR c j) := by
  intro d
  induction d with
  | zero =>
    intro f t m ht hf sf h1 h2 h3
    obtain ⟨f, rfl⟩ : ∃ q, f = q + 1 := ⟨f - 1, by omega⟩
    refine ⟨m, ?_, sf, fun j hj => h2 j (by omega)⟩
    unfold f9_settle_b2
    rw [sf.1 87 (by omega) (by omega) (by omega), hm, if_pos (by rw [nI_leI (by omega) (by omega)]; omega)]
  | succ d ih =>
    intro f t m ht hf sf h1 h2 ⟨K, h3, h4⟩
    obtain ⟨f, rfl⟩ : ∃ q, f = q + 1 := ⟨f - 1, by omega⟩
    have htn : t < n := by omega
    have rf : ∀ i, i < n → RF c n i := fun i hi => rf_all hn hi hc hS
    obtain ⟨m', a1, a2, a3⟩ := settle_in hn htn hc hm hS hW h3 h4 k0n (f9_settle_b2 f) 24 jN 0 m (by omega) (by unfold jN; omega) ⟨sf, fun j hj => h1 j (by omega), h2⟩ (fun z hz => by omega)
    unfold f9_settle_b2
    rw [sf.1 87 (by omega) (by omega) (by omega), hm, if_neg (by rw [nI_leI (by omega) (by omega)]; omega), if_pos (jin_nI (by omega) (by omega)), nI_clamp (by omega), h1 t (Nat.le_refl _), show (0 : Int32) = nI 0 from rfl]
    rw [show f9_settle_b25 (f9_settle_b2 f) jN (nI k0) (nI t) (m1 95 t) (nI 0) (nI 0) m = _ from a1]
    refine ih f (t + 1) m' (by omega) (by omega) a2.1 (fun j hj => a2.2.1 j (by omega)) (fun j hj => ?_) ?_
    · by_cases q : j = t
      · rw [q]; exact a3
      · exact a2.2.2 j (by omega)
    · obtain ⟨K', -, q2, q3⟩ := rf t htn
      obtain rfl := Mn_uniq q2 h3
      rcases q3 with ⟨y, y1, y2, ⟨y3, y4, e, y5, y6⟩, -⟩ | ⟨y2, y3⟩
      · have eq : ∀ x, x < 24 → orC (bt (rT c t)) y x = bt (rT c (t + 1)) x := by
          intro x hx
          rw [rT_or, b_or, y2, oneOf_bt y1 (by omega)]; rfl
        refine ⟨e, Mn_cg (fun _ _ _ _ => rfl) eq y5, ?_⟩
        rw [← fb_ct_cong eq, ct_orC _ y1 y4]; omega
      · have eq : rT c (t + 1) = rT c t := by rw [rT_or, y2, oneOf_no]; simp
        obtain ⟨e, e1, e2, e3⟩ := mostFrom_eq (c := c) hn (i := t + 1) (by omega) hc hS (rT c t)
        rw [eq]
        refine ⟨e, e3, ?_⟩
        have : K' = e := no_cell htn h3 e3 (fun x hx w1 w2 => by
          obtain ⟨g, g1, g2, g3⟩ := mostFrom_eq (c := c) hn (i := t + 1) (by omega) hc hS (rT c t ||| ((1 : Int32) <<< (nI x &&& 31)))
          have g4 : Mn (Wb (c 71)) n (t + 1) (orC (bt (rT c t)) x) g := Mn_cg (fun _ _ _ _ => rfl) (fun y hy => bt_orC _ hx hy) g3
          exact ⟨g, g4, fun q => y3 x hx ⟨w1, w2, g, g4, q⟩⟩)
        omega

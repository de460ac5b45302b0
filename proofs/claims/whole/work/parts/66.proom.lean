/-! ROOMS: the class gives each one a room -/
theorem Mn_cg {W W' : Nat → Nat → Bool} {n i k : Nat} {T T' : Nat → Bool} (hW : ∀ j, j < n → ∀ c, c < 24 → W j c = W' j c) (hT : ∀ c, c < 24 → T c = T' c) (h : Mn W n i T k) : Mn W' n i T' k := by
  have e : ∀ g, nT' W' g T' n = nT' W g T n := by
    intro g
    apply fb_ct_cong
    intro c hc
    rw [hT c hc]
    have : nb W' g n c = nb W g n c := by
      apply Bool.eq_iff_iff.mpr
      rw [nb_iff, nb_iff]
      constructor
      · rintro ⟨j, j1, j2, j3⟩; exact ⟨j, j1, j2, by rw [hW j j1 c hc]; exact j3⟩
      · rintro ⟨j, j1, j2, j3⟩; exact ⟨j, j1, j2, by rw [← hW j j1 c hc]; exact j3⟩
    rw [this]
  obtain ⟨a, g, g1, g2⟩ := h
  exact ⟨fun g hg => by rw [e]; exact a g hg, g, g1, by rw [e]; exact g2⟩
/-- a cell that will do -/
def Pcell (S : Nat → Int32) (n i : Nat) (T : Int32) (K x : Nat) : Prop := Wb S i x = true ∧ bt T x = false ∧ ∃ e, Mn (Wb S) n (i + 1) (orC (bt T) x) e ∧ 1 + e = K
theorem bt_orC (T : Int32) {x c : Nat} (hx : x < 24) (hc : c < 24) : bt (T ||| ((1 : Int32) <<< (nI x &&& 31))) c = orC (bt T) x c := by
  rw [b_or, b_one x (by omega) (by omega)]; rfl
theorem first_loop {c : JMu} {n i K : Nat} (hn : n ≤ 6) (hi : i < n) (h : c 70 1 = nI n) (hS : ∀ j, j < n → ∀ x, 24 ≤ x → bt (c 71 j) x = false) (T : Int32) (hK : K ≤ n) : ∀ d f x, x + d = 24 → d < f →
    (∃ y, x ≤ y ∧ y < 24 ∧ f7_firstRoom_b24 f (nI i) T (nI K) (c 71 i &&& (T ^^^ (-1))) (nI x) c = some (nI y) ∧ Pcell (c 71) n i T K y ∧ ∀ z, x ≤ z → z < y → ¬ Pcell (c 71) n i T K z) ∨
    (f7_firstRoom_b24 f (nI i) T (nI K) (c 71 i &&& (T ^^^ (-1))) (nI x) c = some (-1) ∧ ∀ z, x ≤ z → z < 24 → ¬ Pcell (c 71) n i T K z) := by
  intro d
  induction d with
  | zero =>
    intro f x hx hf
    obtain ⟨f, rfl⟩ : ∃ q, f = q + 1 := ⟨f - 1, by omega⟩
    refine Or.inr ⟨?_, fun z z1 z2 => by omega⟩
    unfold f7_firstRoom_b24
    rw [if_pos (by show nI 24 ≤ _; rw [nI_leI (by omega) (by omega)]; omega)]
  | succ d ih =>
    intro f x hx hf
    obtain ⟨f, rfl⟩ : ∃ q, f = q + 1 := ⟨f - 1, by omega⟩
    have x24 : x < 24 := by omega
    have k24 : ¬ (24 : Int32) ≤ nI x := by show ¬ nI 24 ≤ _; rw [nI_leI (by omega) (by omega)]; omega
    have go : ¬ Pcell (c 71) n i T K x → f7_firstRoom_b24 (f + 1) (nI i) T (nI K) (c 71 i &&& (T ^^^ (-1))) (nI x) c = f7_firstRoom_b24 f (nI i) T (nI K) (c 71 i &&& (T ^^^ (-1))) (nI (x + 1)) c →
        (∃ y, x ≤ y ∧ y < 24 ∧ f7_firstRoom_b24 (f + 1) (nI i) T (nI K) (c 71 i &&& (T ^^^ (-1))) (nI x) c = some (nI y) ∧ Pcell (c 71) n i T K y ∧ ∀ z, x ≤ z → z < y → ¬ Pcell (c 71) n i T K z) ∨
        (f7_firstRoom_b24 (f + 1) (nI i) T (nI K) (c 71 i &&& (T ^^^ (-1))) (nI x) c = some (-1) ∧ ∀ z, x ≤ z → z < 24 → ¬ Pcell (c 71) n i T K z) := by
      intro np e
      rw [e]
      rcases ih f (x + 1) (by omega) (by omega) with ⟨y, y1, y2, y3, y4, y5⟩ | ⟨y3, y5⟩
      · refine Or.inl ⟨y, by omega, y2, y3, y4, fun z z1 z2 => ?_⟩
        by_cases q : z = x
        · rw [q]; exact np
        · exact y5 z (by omega) z2
      · refine Or.inr ⟨y3, fun z z1 z2 => ?_⟩
        by_cases q : z = x
        · rw [q]; exact np
        · exact y5 z (by omega) z2
    have fb : bt (c 71 i &&& (T ^^^ (-1))) x = (Wb (c 71) i x && !bt T x) := by
      rw [b_and, b_xor, b_m1 x (by omega)]
      unfold Wb
      cases bt (c 71 i) x <;> cases bt T x <;> rfl
    by_cases fr : bt (c 71 i &&& (T ^^^ (-1))) x = true
    · have fr2 := fr
      rw [fb, Bool.and_eq_true, Bool.not_eq_true'] at fr2
      obtain ⟨e, e1, e2, e3⟩ := mostFrom_eq (c := c) hn (i := i + 1) (by omega) h hS (T ||| ((1 : Int32) <<< (nI x &&& 31)))
      have e4 : Mn (Wb (c 71)) n (i + 1) (orC (bt T) x) e := Mn_cg (fun _ _ _ _ => rfl) (fun y hy => bt_orC T x24 hy) e3
      have un : f7_firstRoom_b24 (f + 1) (nI i) T (nI K) (c 71 i &&& (T ^^^ (-1))) (nI x) c = if 1 + e = K then some (nI x) else f7_firstRoom_b24 f (nI i) T (nI K) (c 71 i &&& (T ^^^ (-1))) (nI (x + 1)) c := by
        conv => lhs; unfold f7_firstRoom_b24
        rw [if_neg k24, if_neg (by rw [b_sel0 _ x (by omega), fr]; decide), nI_1, e1, ob, show (1 : Int32) + nI e = nI (1 + e) from nI_add 1 e, nI_1]
        by_cases q : 1 + e = K
        · rw [if_pos q, if_pos (by rw [q])]
        · rw [if_neg q, if_neg (by rw [nI_eq (by omega) (by omega)]; exact q)]
      by_cases q : 1 + e = K
      · refine Or.inl ⟨x, Nat.le_refl _, x24, by rw [un, if_pos q], ⟨fr2.1, fr2.2, e, e4, q⟩, fun z z1 z2 => by omega⟩
      · refine go ?_ (by rw [un, if_neg q])
        rintro ⟨-, -, e', p1, p2⟩
        exact q (by rw [Mn_uniq e4 p1]; exact p2)
    · refine go ?_ ?_
      · rintro ⟨p1, p2, -⟩
        apply fr
        rw [fb, p1, p2]; rfl
      · conv => lhs; unfold f7_firstRoom_b24
        rw [if_neg k24, if_pos ((b_sel0 _ x (by omega)).mpr (by simpa using fr)), nI_1]
theorem first_eq {c : JMu} {n i : Nat} (hn : n ≤ 6) (hi : i < n) (h : c 70 1 = nI n) (hS : ∀ j, j < n → ∀ x, 24 ≤ x → bt (c 71 j) x = false) (T : Int32) : ∃ K, K ≤ n ∧ Mn (Wb (c 71)) n i (bt T) K ∧
    ((∃ y, y < 24 ∧ f7_firstRoom (nI i) T c = some (nI y) ∧ Pcell (c 71) n i T K y ∧ ∀ z, z < y → ¬ Pcell (c 71) n i T K z) ∨ (f7_firstRoom (nI i) T c = some (-1) ∧ ∀ z, z < 24 → ¬ Pcell (c 71) n i T K z)) := by
  obtain ⟨K, k1, k2, k3⟩ := mostFrom_eq (c := c) hn (i := i) (by omega) h hS T
  refine ⟨K, k2, k3, ?_⟩
  unfold f7_firstRoom
  rw [k1, ob, get_in rs_70 (by omega) h hi hn, ob]
  rcases first_loop hn hi h hS T k2 24 jN 0 (by omega) (by unfold jN; omega) with ⟨y, -, y2, y3, y4, y5⟩ | ⟨y3, y5⟩
  · exact Or.inl ⟨y, y2, y3, y4, fun z z2 => y5 z (by omega) z2⟩
  · exact Or.inr ⟨y3, fun z z2 => y5 z (by omega) z2⟩
def rT (c : JMu) : Nat → Int32
  | 0 => 0
  | i + 1 => if (f7_firstRoom (nI i) (rT c i) c).getD 0 < 0 then rT c i else rT c i ||| ((1 : Int32) <<< ((f7_firstRoom (nI i) (rT c i) c).getD 0 &&& 31))
def rR (c : JMu) (i : Nat) : Int32 := (f7_firstRoom (nI i) (rT c i) c).getD 0
theorem rT_s (c : JMu) (i : Nat) : rT c (i + 1) = if rR c i < 0 then rT c i else rT c i ||| ((1 : Int32) <<< (rR c i &&& 31)) := rfl
theorem roomOf_loop {c : JMu} {n a : Nat} (hn : n ≤ 6) (ha : a < n) (h : c 70 1 = nI n) (hS : ∀ j, j < n → ∀ x, 24 ≤ x → bt (c 71 j) x = false) : ∀ d f i v, i + d = a + 1 → d < f → (i = a + 1 → v = rR c a) → f7_roomOf_b7 f (nI a) (rT c i) v (nI i) c = some (rR c a) := by
  intro d
  induction d with
  | zero =>
    intro f i v hi hf hv
    obtain ⟨f, rfl⟩ : ∃ q, f = q + 1 := ⟨f - 1, by omega⟩
    unfold f7_roomOf_b7
    rw [if_pos (by rw [ltI (by omega) (by omega)]; omega), hv (by omega)]
  | succ d ih =>
    intro f i v hi hf hv
    obtain ⟨f, rfl⟩ : ∃ q, f = q + 1 := ⟨f - 1, by omega⟩
    have fe : f7_firstRoom (nI i) (rT c i) c = some (rR c i) := by
      obtain ⟨K, -, -, ⟨y, -, y3, -⟩ | ⟨y3, -⟩⟩ := first_eq (c := c) hn (i := i) (by omega) h hS (rT c i)
      · unfold rR; rw [y3]; rfl
      · unfold rR; rw [y3]; rfl
    have nx := ih f (i + 1) (rR c i) (by omega) (by omega) (fun e => by rw [show i = a by omega])
    rw [rT_s] at nx
    unfold f7_roomOf_b7
    rw [if_neg (by rw [ltI (by omega) (by omega)]; omega), h, if_neg (by rw [nI_leI (by omega) (by omega)]; omega), fe, ob, nI_1]
    by_cases q : rR c i < 0
    · rw [if_pos q]; rw [if_pos q] at nx; exact nx
    · rw [if_neg q]; rw [if_neg q] at nx; exact nx

/-! LEVELS -/
def TS (m0 : JMu) (B : Nat → Int32) (N o lev : Nat) (sub : JMu → Option JMu) (tail : Nat → JMu → Option JMu) : Prop :=
  (∀ n m p L, PM m0 m o p L → p ≤ N → opT lev (hrB B N p) = 0 → ∃ m', tail (n + 1) m = some m' ∧ PM m0 m' o p L) ∧
  (∀ n m p L, PM m0 m o p L → p ≤ N → opT lev (hrB B N p) ≠ 0 → p < N ∧ ∃ m1, PM m0 m1 o (p + 1) L ∧ tail (n + 1) m = Option.bind (sub m1) fun r => Option.bind (f9_codes (nI (opT lev (hrB B N p))) r) fun r2 => tail n r2) ∧
  (∀ n m p, BM m0 m p → ∃ m', tail (n + 1) m = some m' ∧ BM m0 m' p)
theorem b23_bad (r0 : Int32 → Int32 → JMu → Option (Int32 × JMu)) (r1 r2 r3 : Int32 → JMu → Option (Int32 × JMu)) (n : Nat) (v1 v2 v4 : Int32) (c : JMu) : f2_readLevel_b23 r0 r1 r2 r3 (n + 1) v1 v2 0 v4 c = some (0, c) := by
  unfold f2_readLevel_b23
  rw [if_pos (Or.inl rfl), if_pos rfl]
  split <;> rfl
theorem lv_loop {c0 m0 : JMu} {B : Nat → Int32} {N u o lev : Nat} (t : TP c0 m0 B N u) (hl : lev ≤ 4) (hl2 : lev ≠ 2) (r0 : Int32 → Int32 → JMu → Option (Int32 × JMu)) (r1 r2 r3 : Int32 → JMu → Option (Int32 × JMu)) (sub : JMu → Option JMu) (tail : Nat → JMu → Option JMu)
    (hs : Rd c0 m0 N o (r0 (nI (lev + 1)) (nI o)) sub) (ht : TS m0 B N o lev sub tail) {L : List Nat} {p0 : Nat} (hL : L.length ≤ p0) : ∀ d n n' i p L' (c m : JMu), N - p ≤ d → d + 1 < n → d + 1 < n' → i ≤ p → p ≤ N → p0 < p → PC c0 c p (L ++ L') → PM m0 m o p (L ++ L') → OKL L' → L'.length + p0 ≤ p →
    Out c0 m0 N o p0 L (f2_readLevel_b23 r0 r1 r2 r3 n (nI lev) (nI o) 1 (nI i) c) (tail n' m) := by
  have tN := t.1
  intro d
  induction d with
  | zero =>
    intro n n' i p L' c m hd hn hn' hi hp hp0 h1 h2 h3 h4
    obtain ⟨n, rfl⟩ : ∃ q, n = q + 1 := ⟨n - 1, by omega⟩
    obtain ⟨n', rfl⟩ : ∃ q, n' = q + 1 := ⟨n' - 1, by omega⟩
    have hr : hrB B N p = -1 := by unfold hrB; rw [if_neg (by omega)]
    obtain ⟨m', a1, a2⟩ := ht.1 n' m p _ h2 hp (by rw [hr]; exact op_m1 lev)
    refine Or.inl ⟨c, m', p, L', ?_, a1, h1, a2, hp0, hp, h4, h3⟩
    have hc := hereC t h1.1 h1.2.1 (by omega)
    obtain ⟨x, x1, x2⟩ := lev_op (hrB B N p) hl
    have xn : ¬ x = nI lev := by rw [x2, hr, op_m1]; exact fun h => h rfl
    unfold f2_readLevel_b23
    rw [if_pos (Or.inr rfl), hc, ob, x1, ob, if_neg i10, if_neg xn]
    split <;> rfl
  | succ d ih =>
    intro n n' i p L' c m hd hn hn' hi hp hp0 h1 h2 h3 h4
    obtain ⟨n, rfl⟩ : ∃ q, n = q + 1 := ⟨n - 1, by omega⟩
    obtain ⟨n', rfl⟩ : ∃ q, n' = q + 1 := ⟨n' - 1, by omega⟩
    have hc := hereC t h1.1 h1.2.1 (by omega)
    obtain ⟨x, x1, x2⟩ := lev_op (hrB B N p) hl
    by_cases e : opT lev (hrB B N p) = 0
    · obtain ⟨m', a1, a2⟩ := ht.1 n' m p _ h2 hp e
      refine Or.inl ⟨c, m', p, L', ?_, a1, h1, a2, hp0, hp, h4, h3⟩
      have xn : ¬ x = nI lev := by rw [x2]; exact fun h => h e
      unfold f2_readLevel_b23
      rw [if_pos (Or.inr rfl), hc, ob, x1, ob, if_neg i10, if_neg xn]
      split <;> rfl
    · obtain ⟨pN, m1, a1, a2⟩ := ht.2.1 n' m p _ h2 hp e
      obtain ⟨k1, k2, k3⟩ := tok_op e
      have i50 : ¬ (50 : Int32) ≤ nI i := by show ¬ nI 50 ≤ _; rw [nI_leI (by omega) (by omega)]; omega
      have l2 : ¬ nI lev = (2 : Int32) := by show ¬ _ = nI 2; rw [nI_eq (by omega) (by omega)]; exact hl2
      have ll : (L ++ L').length ≤ p := by rw [List.length_append]; omega
      rw [a2]
      unfold f2_readLevel_b23
      rw [if_neg i50, if_neg i10, hc, ob, x1, ob, if_pos (x2.mpr e), ob, nI_1, nI_1]
      rcases hs _ m1 (p + 1) (L ++ L') (PC_up h1) a1 (by omega) (by omega) with ⟨c2, m2, p2, L2, b1, b2, b3, b4, b5, b6, b7, b8⟩ | ⟨c2, m2, p2, b1, b2, b3, b4, b5⟩
      · have len : (L ++ L' ++ L2).length < 50 := by rw [List.length_append]; omega
        obtain ⟨_, c3, d1, d2⟩ := PC_add b3 (opT lev (hrB B N p)) len
        obtain ⟨m3, e1, e2⟩ := codesM b4 (opT lev (hrB B N p)) (by omega) (by omega)
        rw [b1, b2, ob, ob, e1, ob]
        dsimp only
        rw [← k3, d1, ob, if_neg l2]
        dsimp only
        have as1 : L ++ L' ++ L2 ++ [opT lev (hrB B N p)] = L ++ (L' ++ (L2 ++ [opT lev (hrB B N p)])) := by simp
        rw [as1] at d2 e2
        refine ih n n' (i + 1) p2 (L' ++ (L2 ++ [opT lev (hrB B N p)])) c3 m3 (by omega) (by omega) (by omega) (by omega) b6 (by omega) d2 e2 (OKL_op h3 b8 k1 k2) ?_
        simp only [List.length_append, List.length_cons, List.length_nil]
        omega
      · obtain ⟨_, c3, d1, d2⟩ := BC_add b3 (tokI (opT lev (hrB B N p)))
        obtain ⟨n, rfl⟩ : ∃ q, n = q + 1 := ⟨n - 1, by omega⟩
        obtain ⟨n', rfl⟩ : ∃ q, n' = q + 1 := ⟨n' - 1, by omega⟩
        obtain ⟨m3, e1, e2⟩ := ht.2.2 n' m2 p2 b4
        rw [b1, b2, ob, ob, codesB b4, ob, e1]
        dsimp only
        rw [← k3, d1, ob, if_neg l2, b23_bad]
        exact Or.inr ⟨c3, m3, p2, rfl, rfl, d2, e2, b5⟩
/-- a level, from the one that binds closer -/
theorem lv_step {c0 m0 : JMu} {B : Nat → Int32} {N u o lev : Nat} (t : TP c0 m0 B N u) (hl : lev ≤ 4) (hl2 : lev ≠ 2) (r0 : Int32 → Int32 → JMu → Option (Int32 × JMu)) (r1 r2 r3 : Int32 → JMu → Option (Int32 × JMu)) (sub : JMu → Option JMu) (tail : Nat → JMu → Option JMu)
    (hs : Rd c0 m0 N o (r0 (nI (lev + 1)) (nI o)) sub) (ht : TS m0 B N o lev sub tail) : Rd c0 m0 N o (f2_readLevel_o r0 r1 r2 r3 (nI lev) (nI o)) (fun m => Option.bind (sub m) fun r => tail jN r) := by
  intro c m p L h1 h2 h3 h4
  have tN := t.1
  unfold f2_readLevel_o
  rw [if_pos (by show nI lev < nI 5; rw [ltI (by omega) (by omega)]; omega), nI_1]
  rcases hs c m p L h1 h2 h3 h4 with ⟨c2, m2, p2, L2, b1, b2, b3, b4, b5, b6, b7, b8⟩ | ⟨c2, m2, p2, b1, b2, b3, b4, b5⟩
  · rw [b1, ob]
    dsimp only
    rw [b2, ob]
    exact lv_loop t hl hl2 r0 r1 r2 r3 sub tail hs ht h3 (N - p2) jN jN 0 p2 L2 c2 m2 (Nat.le_refl _) (by unfold jN; omega) (by unfold jN; omega) (by omega) b6 b5 b3 b4 b8 b7
  · obtain ⟨m3, e1, e2⟩ := ht.2.2 999 m2 p2 b4
    rw [b1, ob]
    dsimp only
    rw [b2, ob, show tail jN m2 = some m3 from e1, show f2_readLevel_b23 r0 r1 r2 r3 jN (nI lev) (nI o) 0 0 c2 = some (0, c2) from b23_bad r0 r1 r2 r3 999 _ _ _ c2]
    exact Or.inr ⟨c2, m3, p2, rfl, rfl, b3, e2, b5⟩
-- the check's tails
theorem ts_one {c0 m0 : JMu} {B : Nat → Int32} {N u o lev : Nat} (t : TP c0 m0 B N u) (a : Int32) (ha : a ≠ -1) (tk : Nat) (hop : ∀ b, opT lev b = if b = a then tk else 0) (htk : tk ≠ 0) (sub : JMu → Option JMu) (b4 : Nat → JMu → Option JMu)
    (hb : ∀ n m, b4 (n + 1) m = Option.bind (f9_takes a m) fun r6 => if r6.1 = 0 then some r6.2 else Option.bind (sub r6.2) fun r8 => Option.bind (f9_codes (nI tk) r8) fun r9 => b4 n r9) : TS m0 B N o lev sub b4 := by
  have tN := t.1
  refine ⟨?_, ?_, ?_⟩
  · intro n m p L h hp h0
    rw [hop] at h0
    rw [hb]
    rcases takesM t h (by omega) a ha with ⟨e, -, -⟩ | ⟨e, m', a1, a2⟩
    · rw [if_pos e] at h0; exact absurd h0 htk
    · rw [a1, ob]
      exact ⟨m', rfl, a2⟩
  · intro n m p L h hp h0
    rw [hop] at h0
    rw [hb, hop]
    rcases takesM t h (by omega) a ha with ⟨e, pN, m', a1, a2⟩ | ⟨e, -⟩
    · rw [if_pos e, a1, ob]
      exact ⟨pN, m', a2, rfl⟩
    · rw [if_neg e] at h0; exact absurd rfl h0
  · intro n m p h
    rw [hb]
    obtain ⟨m', a1, a2⟩ := takesB h a ha
    rw [a1, ob]
    exact ⟨m', rfl, a2⟩
theorem ts_sum {c0 m0 : JMu} {B : Nat → Int32} {N u o : Nat} (t : TP c0 m0 B N u) (r0 r1 r2 r3 r4 r5 : JMu → Option JMu) :
    TS m0 B N o 3 r4 (fun n m => Option.bind (f9_takes 43 m) fun r21 => if r21.1 = 0 then Option.bind (f9_takes 45 r21.2) fun r23 => if r23.1 = 0 then f9_sum_b36 r0 r1 r2 r3 r4 r5 n 0 r23.2 else f9_sum_b36 r0 r1 r2 r3 r4 r5 n 20006 r23.2 else f9_sum_b36 r0 r1 r2 r3 r4 r5 n 20005 r21.2) := by
  have tN := t.1
  have z : ∀ n m, f9_sum_b36 r0 r1 r2 r3 r4 r5 (n + 1) 0 m = some m := by
    intro n m
    unfold f9_sum_b36
    rw [if_pos (by decide)]
  refine ⟨?_, ?_, ?_⟩
  · intro n m p L h hp h0
    dsimp only
    rcases takesM t h (by omega) 43 (by decide) with ⟨e, -, -⟩ | ⟨e, m', a1, a2⟩
    · rw [e] at h0; exact absurd h0 (by decide)
    · rw [a1, ob]
      dsimp only
      rw [if_pos rfl]
      rcases takesM t a2 (by omega) 45 (by decide) with ⟨e, -, -⟩ | ⟨e, m'', b1, b2⟩
      · rw [e] at h0; exact absurd h0 (by decide)
      · rw [b1, ob]
        dsimp only
        rw [if_pos rfl, z]
        exact ⟨m'', rfl, b2⟩
  · intro n m p L h hp h0
    dsimp only
    rcases takesM t h (by omega) 43 (by decide) with ⟨e, pN, m', a1, a2⟩ | ⟨e, m', a1, a2⟩
    · rw [a1, ob]
      dsimp only
      rw [if_neg i10, e, show opT 3 43 = 20005 from by decide]
      refine ⟨pN, m', a2, ?_⟩
      conv => lhs; unfold f9_sum_b36
      rw [if_neg (by decide)]; rfl
    · rw [a1, ob]
      dsimp only
      rw [if_pos rfl]
      rcases takesM t a2 (by omega) 45 (by decide) with ⟨e2, pN, m'', b1, b2⟩ | ⟨e2, m'', b1, b2⟩
      · rw [b1, ob]
        dsimp only
        rw [if_neg i10, e2, show opT 3 45 = 20006 from by decide]
        refine ⟨pN, m'', b2, ?_⟩
        conv => lhs; unfold f9_sum_b36
        rw [if_neg (by decide)]; rfl
      · exfalso
        apply h0
        unfold opT
        simp [e, e2]
  · intro n m p h
    dsimp only
    obtain ⟨m', a1, a2⟩ := takesB h 43 (by decide)
    obtain ⟨m'', b1, b2⟩ := takesB a2 45 (by decide)
    rw [a1, ob]
    dsimp only
    rw [if_pos rfl, b1, ob]
    dsimp only
    rw [if_pos rfl, z]
    exact ⟨m'', rfl, b2⟩
theorem ts_prod {c0 m0 : JMu} {B : Nat → Int32} {N u o : Nat} (t : TP c0 m0 B N u) (r0 r1 r2 r3 r4 r5 : JMu → Option JMu) :
    TS m0 B N o 4 r5 (fun n m => Option.bind (f9_takes 42 m) fun r27 => if r27.1 = 0 then Option.bind (f9_takes 47 r27.2) fun r29 => if r29.1 = 0 then Option.bind (f9_takes 37 r29.2) fun r31 => if r31.1 = 0 then f9_product_b51 r0 r1 r2 r3 r4 r5 n 0 r31.2 else f9_product_b51 r0 r1 r2 r3 r4 r5 n 20009 r31.2 else f9_product_b51 r0 r1 r2 r3 r4 r5 n 20008 r29.2 else f9_product_b51 r0 r1 r2 r3 r4 r5 n 20007 r27.2) := by
  have tN := t.1
  have z : ∀ n m, f9_product_b51 r0 r1 r2 r3 r4 r5 (n + 1) 0 m = some m := by
    intro n m
    unfold f9_product_b51
    rw [if_pos (by decide)]
  refine ⟨?_, ?_, ?_⟩
  · intro n m p L h hp h0
    dsimp only
    rcases takesM t h (by omega) 42 (by decide) with ⟨e, -, -⟩ | ⟨e, m', a1, a2⟩
    · rw [e] at h0; exact absurd h0 (by decide)
    · rw [a1, ob]
      dsimp only
      rw [if_pos rfl]
      rcases takesM t a2 (by omega) 47 (by decide) with ⟨e, -, -⟩ | ⟨e, m'', b1, b2⟩
      · rw [e] at h0; exact absurd h0 (by decide)
      · rw [b1, ob]
        dsimp only
        rw [if_pos rfl]
        rcases takesM t b2 (by omega) 37 (by decide) with ⟨e, -, -⟩ | ⟨e, m3, d1, d2⟩
        · rw [e] at h0; exact absurd h0 (by decide)
        · rw [d1, ob]
          dsimp only
          rw [if_pos rfl, z]
          exact ⟨m3, rfl, d2⟩
  · intro n m p L h hp h0
    dsimp only
    rcases takesM t h (by omega) 42 (by decide) with ⟨e, pN, m', a1, a2⟩ | ⟨e, m', a1, a2⟩
    · rw [a1, ob]
      dsimp only
      rw [if_neg i10, e, show opT 4 42 = 20007 from by decide]
      refine ⟨pN, m', a2, ?_⟩
      conv => lhs; unfold f9_product_b51
      rw [if_neg (by decide)]; rfl
    · rw [a1, ob]
      dsimp only
      rw [if_pos rfl]
      rcases takesM t a2 (by omega) 47 (by decide) with ⟨e2, pN, m'', b1, b2⟩ | ⟨e2, m'', b1, b2⟩
      · rw [b1, ob]
        dsimp only
        rw [if_neg i10, e2, show opT 4 47 = 20008 from by decide]
        refine ⟨pN, m'', b2, ?_⟩
        conv => lhs; unfold f9_product_b51
        rw [if_neg (by decide)]; rfl
      · rw [b1, ob]
        dsimp only
        rw [if_pos rfl]
        rcases takesM t b2 (by omega) 37 (by decide) with ⟨e3, pN, m3, d1, d2⟩ | ⟨e3, m3, d1, d2⟩
        · rw [d1, ob]
          dsimp only
          rw [if_neg i10, e3, show opT 4 37 = 20009 from by decide]
          refine ⟨pN, m3, d2, ?_⟩
          conv => lhs; unfold f9_product_b51
          rw [if_neg (by decide)]; rfl
        · exfalso
          apply h0
          unfold opT
          simp [e, e2, e3]
  · intro n m p h
    dsimp only
    obtain ⟨m', a1, a2⟩ := takesB h 42 (by decide)
    obtain ⟨m'', b1, b2⟩ := takesB a2 47 (by decide)
    obtain ⟨m3, d1, d2⟩ := takesB b2 37 (by decide)
    rw [a1, ob]
    dsimp only
    rw [if_pos rfl, b1, ob]
    dsimp only
    rw [if_pos rfl, d1, ob]
    dsimp only
    rw [if_pos rfl, z]
    exact ⟨m3, rfl, d2⟩
theorem op0 (b : Int32) : opT 0 b = if b = 124 then 20000 else 0 := by unfold opT; simp
theorem op1 (b : Int32) : opT 1 b = if b = 38 then 20001 else 0 := by unfold opT; simp

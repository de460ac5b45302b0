/-! COMPARED, SINGLE, THE WHOLE READING -/
theorem cmp_tail {c0 m0 : JMu} {B : Nat → Int32} {N u o : Nat} (t : TP c0 m0 B N u) (r0 r1 r2 r3 r4 r5 : JMu → Option JMu) (K : JMu → Option JMu)
    (hK : ∀ m, K m = Option.bind (f9_takes 60 m) fun r15 => if r15.1 = 0 then Option.bind (f9_takes 61 r15.2) fun r17 => if r17.1 = 0 then Option.bind (f9_takes 62 r17.2) fun r19 => if r19.1 = 0 then f9_compared_b50 r0 r1 r2 r3 r4 r5 0 r19.2 else f9_compared_b50 r0 r1 r2 r3 r4 r5 20004 r19.2 else f9_compared_b50 r0 r1 r2 r3 r4 r5 20003 r17.2 else f9_compared_b50 r0 r1 r2 r3 r4 r5 20002 r15.2) :
    (∀ m p L, PM m0 m o p L → p ≤ N → opT 2 (hrB B N p) = 0 → ∃ m', K m = some m' ∧ PM m0 m' o p L) ∧
    (∀ m p L, PM m0 m o p L → p ≤ N → opT 2 (hrB B N p) ≠ 0 → p < N ∧ ∃ m1, PM m0 m1 o (p + 1) L ∧ K m = Option.bind (r3 m1) fun r => Option.bind (f9_codes (nI (opT 2 (hrB B N p))) r) fun r2 => some r2) ∧
    (∀ m p, BM m0 m p → ∃ m', K m = some m' ∧ BM m0 m' p) := by
  have tN := t.1
  have z : ∀ m, f9_compared_b50 r0 r1 r2 r3 r4 r5 0 m = some m := by
    intro m
    unfold f9_compared_b50
    rw [if_pos (by decide)]
  refine ⟨?_, ?_, ?_⟩
  · intro m p L h hp h0
    rw [hK]
    rcases takesM t h (by omega) 60 (by decide) with ⟨e, -, -⟩ | ⟨e, m', a1, a2⟩
    · rw [e] at h0; exact absurd h0 (by decide)
    · rw [a1, ob]
      dsimp only
      rw [if_pos rfl]
      rcases takesM t a2 (by omega) 61 (by decide) with ⟨e, -, -⟩ | ⟨e, m'', b1, b2⟩
      · rw [e] at h0; exact absurd h0 (by decide)
      · rw [b1, ob]
        dsimp only
        rw [if_pos rfl]
        rcases takesM t b2 (by omega) 62 (by decide) with ⟨e, -, -⟩ | ⟨e, m3, d1, d2⟩
        · rw [e] at h0; exact absurd h0 (by decide)
        · rw [d1, ob]
          dsimp only
          rw [if_pos rfl, z]
          exact ⟨m3, rfl, d2⟩
  · intro m p L h hp h0
    rw [hK]
    rcases takesM t h (by omega) 60 (by decide) with ⟨e, pN, m', a1, a2⟩ | ⟨e, m', a1, a2⟩
    · rw [a1, ob]
      dsimp only
      rw [if_neg i10, e, show opT 2 60 = 20002 from by decide]
      refine ⟨pN, m', a2, ?_⟩
      unfold f9_compared_b50
      rw [if_neg (by decide)]; rfl
    · rw [a1, ob]
      dsimp only
      rw [if_pos rfl]
      rcases takesM t a2 (by omega) 61 (by decide) with ⟨e2, pN, m'', b1, b2⟩ | ⟨e2, m'', b1, b2⟩
      · rw [b1, ob]
        dsimp only
        rw [if_neg i10, e2, show opT 2 61 = 20003 from by decide]
        refine ⟨pN, m'', b2, ?_⟩
        unfold f9_compared_b50
        rw [if_neg (by decide)]; rfl
      · rw [b1, ob]
        dsimp only
        rw [if_pos rfl]
        rcases takesM t b2 (by omega) 62 (by decide) with ⟨e3, pN, m3, d1, d2⟩ | ⟨e3, m3, d1, d2⟩
        · rw [d1, ob]
          dsimp only
          rw [if_neg i10, e3, show opT 2 62 = 20004 from by decide]
          refine ⟨pN, m3, d2, ?_⟩
          unfold f9_compared_b50
          rw [if_neg (by decide)]; rfl
        · exfalso
          apply h0
          unfold opT
          simp [e, e2, e3]
  · intro m p h
    rw [hK]
    obtain ⟨m', a1, a2⟩ := takesB h 60 (by decide)
    obtain ⟨m'', b1, b2⟩ := takesB a2 61 (by decide)
    obtain ⟨m3, d1, d2⟩ := takesB b2 62 (by decide)
    rw [a1, ob]
    dsimp only
    rw [if_pos rfl, b1, ob]
    dsimp only
    rw [if_pos rfl, d1, ob]
    dsimp only
    rw [if_pos rfl, z]
    exact ⟨m3, rfl, d2⟩
theorem cmp_step {c0 m0 : JMu} {B : Nat → Int32} {N u o : Nat} (t : TP c0 m0 B N u) (s0 : Int32 → Int32 → JMu → Option (Int32 × JMu)) (s1 s2 s3 : Int32 → JMu → Option (Int32 × JMu)) (r0 r1 r2 r3 r4 r5 : JMu → Option JMu)
    (hs : Rd c0 m0 N o (s0 (nI 3) (nI o)) r3) : Rd c0 m0 N o (f2_readLevel_o s0 s1 s2 s3 (nI 2) (nI o)) (f9_compared_o r0 r1 r2 r3 r4 r5) := by
  intro c m p L h1 h2 h3 h4
  have tN := t.1
  obtain ⟨T1, T2, T3⟩ := cmp_tail (o := o) t r0 r1 r2 r3 r4 r5 _ (fun _ => rfl)
  unfold f2_readLevel_o f9_compared_o
  rw [if_pos (by decide), show nI 2 + 1 = nI 3 from rfl]
  rcases hs c m p L h1 h2 h3 h4 with ⟨c2, m2, p2, L2, b1, b2, b3, b4, b5, b6, b7, b8⟩ | ⟨c2, m2, p2, b1, b2, b3, b4, b5⟩
  · rw [b1, ob, b2, ob]
    dsimp only
    have hc := hereC t b3.1 b3.2.1 (by omega)
    obtain ⟨x, x1, x2⟩ := lev_op (hrB B N p2) (lev := 2) (by omega)
    show Out c0 m0 N o p L (f2_readLevel_b23 s0 s1 s2 s3 (999 + 1) (nI 2) (nI o) 1 0 c2) _
    unfold f2_readLevel_b23
    rw [if_neg (by decide), if_neg i10, hc, ob, x1, ob]
    by_cases e : opT 2 (hrB B N p2) = 0
    · obtain ⟨m3, a1, a2⟩ := T1 m2 p2 _ b4 b6 e
      rw [if_neg (by rw [x2]; exact fun h => h e), if_pos (Or.inr rfl), a1]
      exact Or.inl ⟨c2, m3, p2, L2, rfl, rfl, b3, a2, b5, b6, b7, b8⟩
    · obtain ⟨pN, m3, a1, a2⟩ := T2 m2 p2 _ b4 b6 e
      obtain ⟨k1, k2, k3⟩ := tok_op e
      have ll : (L ++ L2).length ≤ p2 := by rw [List.length_append]; omega
      rw [a2, if_pos (x2.mpr e), ob, show nI 2 + 1 = nI 3 from rfl]
      have e22 : nI 2 = (2 : Int32) := rfl
      rcases hs _ m3 (p2 + 1) (L ++ L2) (PC_up b3) a1 (by omega) (by omega) with ⟨c4, m4, p4, L4, q1, q2, q3, q4, q5, q6, q7, q8⟩ | ⟨c4, m4, p4, q1, q2, q3, q4, q5⟩
      · have len : (L ++ L2 ++ L4).length < 50 := by rw [List.length_append]; omega
        obtain ⟨_, c5, d1, d2⟩ := PC_add q3 (opT 2 (hrB B N p2)) len
        obtain ⟨m5, e1, e2⟩ := codesM q4 (opT 2 (hrB B N p2)) (by omega) (by omega)
        rw [q1, q2, ob, ob, e1, ob]
        dsimp only
        rw [← k3, d1, ob, if_pos e22, if_pos (Or.inr rfl)]
        have as1 : L ++ L2 ++ L4 ++ [opT 2 (hrB B N p2)] = L ++ (L2 ++ (L4 ++ [opT 2 (hrB B N p2)])) := by simp
        rw [as1] at d2 e2
        refine Or.inl ⟨c5, m5, p4, _, rfl, rfl, d2, e2, by omega, q6, ?_, OKL_op b8 q8 k1 k2⟩
        simp only [List.length_append, List.length_cons, List.length_nil]
        omega
      · obtain ⟨_, c5, d1, d2⟩ := BC_add q3 (tokI (opT 2 (hrB B N p2)))
        rw [q1, q2, ob, ob, codesB q4, ob]
        dsimp only
        rw [← k3, d1, ob, if_pos e22, if_pos (Or.inl rfl)]
        exact Or.inr ⟨c5, m4, p4, rfl, rfl, d2, q4, q5⟩
  · obtain ⟨m3, e1, e2⟩ := T3 m2 p2 b4
    rw [b1, ob, b2, ob, e1]
    dsimp only
    rw [show f2_readLevel_b23 s0 s1 s2 s3 jN (nI 2) (nI o) 0 0 c2 = some (0, c2) from b23_bad s0 s1 s2 s3 999 _ _ _ c2]
    exact Or.inr ⟨c2, m3, p2, rfl, rfl, b3, e2, b5⟩
theorem PM_9 {m0 m : JMu} {o p : Nat} {L : List Nat} (h : PM m0 m o p L) : PM m0 (jup m 86 9 0) o p L := by
  obtain ⟨f, h6, h7, h9, h11, hc⟩ := h
  refine ⟨FM_86 f (by omega) _, ?_, ?_, ?_, ?_, ?_⟩
  · rw [jup_col (by omega)]; exact h6
  · rw [jup_col (by omega)]; exact h7
  · rw [jup_self]
  · rw [jup_col (by omega)]; exact h11
  · rw [jup_row (by omega)]; exact hc
theorem BM_9 {m0 m : JMu} {p : Nat} (f : FM m0 m) (h6 : m 86 6 = nI p) : BM m0 (jup m 86 9 1) p := ⟨FM_86 f (by omega) _, by rw [jup_col (by omega)]; exact h6, by rw [jup_self]⟩
theorem PM_at {m0 m : JMu} {o p : Nat} {L : List Nat} (h : PM m0 m o p L) : PM m0 (jup m 86 6 (m 86 6 + 1)) o (p + 1) L := by
  obtain ⟨f, h6, h7, h9, h11, hc⟩ := h
  refine ⟨FM_86 f (by omega) _, ?_, ?_, ?_, ?_, ?_⟩
  · rw [jup_self, h6]; exact nI_1 p
  · rw [jup_col (by omega)]; exact h7
  · rw [jup_col (by omega)]; exact h9
  · rw [jup_col (by omega)]; exact h11
  · rw [jup_row (by omega)]; exact hc
theorem PM_op {m0 m : JMu} {o o' p : Nat} {L : List Nat} (h : PM m0 m o p L) (v : Int32) (hv : v = nI o') : PM m0 (jup m 86 7 v) o' p L := by
  obtain ⟨f, h6, h7, h9, h11, hc⟩ := h
  refine ⟨FM_86 f (by omega) _, ?_, ?_, ?_, ?_, ?_⟩
  · rw [jup_col (by omega)]; exact h6
  · rw [jup_self, hv]
  · rw [jup_col (by omega)]; exact h9
  · rw [jup_col (by omega)]; exact h11
  · rw [jup_row (by omega)]; exact hc
theorem BM_op {m0 m : JMu} {p : Nat} (h : BM m0 m p) (v : Int32) : BM m0 (jup m 86 7 v) p := ⟨FM_86 h.1 (by omega) _, by rw [jup_col (by omega)]; exact h.2.1, by rw [jup_col (by omega)]; exact h.2.2⟩
theorem single_step {c0 m0 : JMu} {B : Nat → Int32} {N u o : Nat} (t : TP c0 m0 B N u) (ho : o ≤ 5) (s0 : Int32 → Int32 → JMu → Option (Int32 × JMu)) (s1 s2 s3 : Int32 → JMu → Option (Int32 × JMu)) (r0 r1 r2 r3 r4 r5 : JMu → Option JMu)
    (S1 : JMu → Option (Int32 × JMu)) (L0 : JMu → Option (Int32 × JMu))
    (hN : o < 5 → s2 (nI (o + 1)) = (fun c => Option.bind (S1 c) fun r4 => Option.bind (f3_add 64 (-33) r4.2) fun r5 => if r4.1 = 0 ∨ r4.1 = 1 then some (r4.1, r5.2) else none) ∧ Rd c0 m0 N (o + 1) S1 r5)
    (hL : o < 5 → s3 (nI (o + 1)) = (fun c => Option.bind (L0 c) fun r5 => if r5.1 = 0 then some (0, r5.2) else Option.bind (f2_here r5.2) fun r7 => if r7 = 41 then some (1, jup r5.2 61 3 ((r5.2 61 3) + 1)) else some (0, r5.2)) ∧ Rd c0 m0 N (o + 1) L0 r0) :
    Rd c0 m0 N o (f2_readSingle_o s0 s1 s2 s3 (nI o)) (f9_one_o r0 r1 r2 r3 r4 r5) := by
  intro c m p L h1 h2 h3 h4
  have tN := t.1
  have hc := hereC t h1.1 h1.2.1 (by omega)
  have hm := hereM t h2 (by omega)
  have c2 : c 61 2 = nI u := by rw [h1.1.2 2 (by omega)]; exact t.2.2.2.2.1
  have m8 : m 86 8 = nI u := by rw [h2.1.2 8 (by omega) (by omega) (by omega) (by omega)]; exact t.2.2.2.2.2.2.2
  have bad : Out c0 m0 N o p L (some (0, c)) (some (jup m 86 9 1)) := Or.inr ⟨c, _, p, rfl, rfl, PC_bad h1, BM_9 h2.1 h2.2.1, h4⟩
  have pOf : ∀ a : Int32, a ≠ -1 → hrB B N p = a → p < N := by
    intro a ha e
    apply Classical.byContradiction
    intro q
    unfold hrB at e
    rw [if_neg q] at e
    exact ha e.symm
  have b218bad : ∀ v, f9_one_b218 r0 r1 r2 r3 r4 r5 v 1 m = some (jup m 86 9 1) := by
    intro v
    unfold f9_one_b218
    rw [if_pos (Or.inr rfl), jup_self, if_neg i10]
  unfold f2_readSingle_o f9_one_o
  rw [hc, ob, hm, ob]
  -- the two that open
  have opens : ∀ a : Int32, (a = 33 ∨ a = 40) → hrB B N p = a → Out c0 m0 N o p L (f2_readSingle_b61 s0 s1 s2 s3 (nI o) a c) (f9_one_b17 r0 r1 r2 r3 r4 r5 a m) := by
    intro a ha ea
    have pN := pOf a (by rcases ha with rfl | rfl <;> decide) ea
    unfold f2_readSingle_b61 f9_one_b17 f9_one_b31
    rw [h2.2.2.1]
    by_cases e5 : o = 5
    · subst e5
      rw [if_neg (by decide), if_pos (by decide), if_pos (Or.inr rfl), jup_self, if_neg i10]
      exact bad
    · have o5 : o < 5 := by omega
      obtain ⟨n1, n2⟩ := hN o5
      obtain ⟨l1, l2⟩ := hL o5
      have lo5 : nI o < (5 : Int32) := by show nI o < nI 5; rw [ltI (by omega) (by omega)]; exact o5
      have no5 : ¬ nI o = (5 : Int32) := by show ¬ nI o = nI 5; rw [nI_eq (by omega) (by omega)]; exact e5
      rw [if_pos lo5, if_neg no5, if_pos (Or.inl rfl), jup_self, if_pos rfl, nI_1, n1, l1]
      dsimp only
      have pm := PM_at (PM_op (PM_9 h2) ((jup m 86 9 0) 86 7 + 1) (o' := o + 1) (by rw [jup_col (by omega), h2.2.2.1]; exact nI_1 o))
      generalize jup (jup (jup m 86 9 0) 86 7 ((jup m 86 9 0) 86 7 + 1)) 86 6 ((jup (jup m 86 9 0) 86 7 ((jup m 86 9 0) 86 7 + 1)) 86 6 + 1) = m1 at *
      have cu := PC_up h1
      generalize jup c 61 3 (c 61 3 + 1) = c1 at *
      rcases ha with rfl | rfl
      · rw [if_pos rfl, if_pos rfl]
        unfold f9_one_b103
        rcases n2 c1 m1 (p + 1) L cu pm (by omega) (by omega) with ⟨c4, m4, p4, L4, q1, q2, q3, q4, q5, q6, q7, q8⟩ | ⟨c4, m4, p4, q1, q2, q3, q4, q5⟩
        · have len : (L ++ L4).length < 50 := by rw [List.length_append]; omega
          obtain ⟨_, c5, d1, d2⟩ := PC_add q3 20010 len
          obtain ⟨m5, e1, e2⟩ := codesM q4 20010 (by omega) (by omega)
          rw [q1, q2, ob, ob, show f9_codes 20010 m4 = some m5 from e1, ob]
          dsimp only
          rw [show f3_add 64 (-33) c4 = _ from d1, ob, if_pos (Or.inr rfl), ob]
          dsimp only
          rw [if_pos (Or.inr rfl)]
          rw [List.append_assoc] at d2 e2
          refine Or.inl ⟨c5, _, p4, L4 ++ [20010], rfl, rfl, d2, PM_op e2 _ (by rw [e2.2.2.1, nI_pred]), by omega, q6, ?_, OKL_not q8⟩
          simp only [List.length_append, List.length_cons, List.length_nil]
          omega
        · obtain ⟨_, c5, d1, d2⟩ := BC_add q3 (-33)
          rw [q1, q2, ob, ob, codesB q4, ob]
          dsimp only
          rw [d1, ob, if_pos (Or.inl rfl), ob]
          dsimp only
          rw [if_pos (Or.inl rfl)]
          exact Or.inr ⟨c5, _, p4, rfl, rfl, d2, BM_op q4 _, q5⟩
      · rw [if_neg (by decide), if_neg (by decide)]
        unfold f9_one_b100 f9_one_b103
        rcases l2 c1 m1 (p + 1) L cu pm (by omega) (by omega) with ⟨c4, m4, p4, L4, q1, q2, q3, q4, q5, q6, q7, q8⟩ | ⟨c4, m4, p4, q1, q2, q3, q4, q5⟩
        · rw [q1, q2, ob, ob]
          dsimp only
          rw [if_neg i10, hereC t q3.1 q3.2.1 (by omega), ob]
          rcases takesM t q4 (by omega) 41 (by decide) with ⟨e, pN4, m5, a1, a2⟩ | ⟨e, m5, a1, a2⟩
          · rw [if_pos e, a1, ob, ob]
            dsimp only
            rw [if_neg i10, if_pos (Or.inr rfl), if_pos (Or.inl rfl)]
            have pm9 := PM_9 a2
            exact Or.inl ⟨_, _, p4 + 1, L4, rfl, rfl, PC_up q3, PM_op pm9 _ (by rw [pm9.2.2.1, nI_pred]), by omega, by omega, by omega, q8⟩
          · rw [if_neg e, a1, ob, ob]
            dsimp only
            rw [if_pos rfl, if_pos (Or.inl rfl), if_pos (Or.inr rfl)]
            exact Or.inr ⟨c4, _, p4, rfl, rfl, PC_bad q3, BM_op (BM_9 a2.1 a2.2.1) _, q6⟩
        · obtain ⟨m5, a1, a2⟩ := takesB q4 41 (by decide)
          rw [q1, q2, ob, ob, a1, ob]
          dsimp only
          rw [if_pos rfl, ob, if_pos rfl]
          dsimp only
          rw [if_pos (Or.inl rfl), if_pos (Or.inr rfl)]
          exact Or.inr ⟨c4, _, p4, rfl, rfl, q3, BM_op (BM_9 a2.1 a2.2.1) _, q5⟩
  rcases digit_two (hrB B N p) with ⟨k, k9, ek, d1, d2⟩ | ⟨d1, d2, d3⟩
  · obtain ⟨c', m', p', x', a1, a2, a3, a4, a5, a6, a7⟩ := num_loop t r0 r1 r2 r3 r4 r5 h3 4 jN jN 0 0 p c m (by omega) (by unfold jN; omega) (by unfold jN; omega) (by decide) h1 h2 h4 (by omega) (fun _ => ⟨k, k9, ek⟩)
    have n33 : ¬ hrB B N p = 33 := by rw [ek]; show ¬ nI (48 + k) = nI 33; rw [nI_eq (by omega) (by omega)]; omega
    have n40 : ¬ hrB B N p = 40 := by rw [ek]; show ¬ nI (48 + k) = nI 40; rw [nI_eq (by omega) (by omega)]; omega
    rw [d1, ob, if_neg i10, if_neg n33, if_neg n40, d2, ob, if_neg i10, show f2_readNumber c = some c' from a1, ob, show f9_one_b131 r0 r1 r2 r3 r4 r5 jN 0 0 m = some m' from a2]
    exact Or.inl ⟨c', m', p', [x'], rfl, rfl, a3, a4, by omega, a7, by simp; omega, OKL_one (by omega)⟩
  · rw [d1, ob, if_pos rfl]
    rcases name_two t.2.1 c2 m8 (hrB B N p) with ⟨j, j3, n1, n2, n3, n4, n5, n6⟩ | ⟨n1, n2⟩
    · have pN := pOf (hrB B N p) (by
        intro e
        rw [e] at n3
        exact absurd n3 (by decide)) rfl
      rw [n1, ob, if_neg n6, if_neg n4, if_neg n5, d2, ob, if_pos rfl, if_pos n3, n2, ob]
      unfold f9_one_b200
      rw [h2.2.2.2.1, if_pos rfl, if_pos (nI_pos' (by omega))]
      unfold f9_one_b218
      rw [if_pos (Or.inl rfl), jup_self, if_pos rfl, show (10000 : Int32) = nI 10000 from rfl, nI_add]
      obtain ⟨_, c5, e1, e2⟩ := PC_add (PC_up h1) (10000 + j) (by omega)
      obtain ⟨m5, f1, f2⟩ := codesM (PM_9 h2) (10000 + j) (by omega) (by omega)
      rw [e1, f1, ob, ob]
      exact Or.inl ⟨c5, _, p + 1, [10000 + j], rfl, rfl, e2, PM_at f2, by omega, by omega, by simp; omega, OKL_one (by omega)⟩
    · rw [n1, ob, if_pos rfl]
      by_cases e33 : hrB B N p = 33
      · rw [if_pos e33, if_pos e33]
        have := opens 33 (Or.inl rfl) e33
        rw [e33]; exact this
      · by_cases e40 : hrB B N p = 40
        · rw [if_neg e33, if_pos e40, if_neg e33, if_pos e40]
          have := opens 40 (Or.inr rfl) e40
          rw [e40]; exact this
        · rw [if_neg e33, if_neg e40, if_neg e33, if_neg e40, d2, ob, if_pos rfl]
          unfold f9_one_b200 f9_one_b213
          have m1 : ¬ (0 : Int32) ≤ -1 := by decide
          rw [n2, ob, b218bad, h2.2.2.2.1, if_pos rfl, if_neg m1]
          have : (if (0 : Int32) ≤ hrB B N p then some (jup m 86 9 1) else some (jup m 86 9 1)) = some (jup m 86 9 1) := by split <;> rfl
          rw [this]
          exact bad

/-! THE WHOLE READING; TEXT -/
theorem rd_five {c0 m0 : JMu} {N o : Nat} (s0 : Int32 → Int32 → JMu → Option (Int32 × JMu)) (s1 s2 s3 : Int32 → JMu → Option (Int32 × JMu)) (G : JMu → Option JMu) (h : Rd c0 m0 N o (s1 (nI o)) G) : Rd c0 m0 N o (f2_readLevel_o s0 s1 s2 s3 (nI 5) (nI o)) G := by
  intro c m p L h1 h2 h3 h4
  unfold f2_readLevel_o
  rw [if_neg (by decide)]
  rcases h c m p L h1 h2 h3 h4 with ⟨c', m', p', L', a1, a2⟩ | ⟨c', m', p', a1, a2⟩
  · rw [a1, ob]
    dsimp only
    rw [if_pos (Or.inr rfl)]
    exact Or.inl ⟨c', m', p', L', rfl, a2⟩
  · rw [a1, ob]
    dsimp only
    rw [if_pos (Or.inl rfl)]
    exact Or.inr ⟨c', m', p', rfl, a2⟩
def RdAll (c0 m0 : JMu) (N o j : Nat) : Prop :=
  (∀ k k', 1 + 8 * j ≤ k → 1 + 6 * j ≤ k' → Rd c0 m0 N o ((gf2_readLevel k).2.1 (nI o)) (gf9_either k').2.2.2.2.2) ∧
  (∀ k k', 7 + 8 * j ≤ k → 6 + 6 * j ≤ k' → Rd c0 m0 N o ((gf2_readLevel k).1 (nI 0) (nI o)) (gf9_either k').1)
theorem rd_levels {c0 m0 : JMu} {B : Nat → Int32} {N u o j : Nat} (t : TP c0 m0 B N u) (h : ∀ k k', 1 + 8 * j ≤ k → 1 + 6 * j ≤ k' → Rd c0 m0 N o ((gf2_readLevel k).2.1 (nI o)) (gf9_either k').2.2.2.2.2) (k k' : Nat) (hk : 7 + 8 * j ≤ k) (hk' : 6 + 6 * j ≤ k') : Rd c0 m0 N o ((gf2_readLevel k).1 (nI 0) (nI o)) (gf9_either k').1 := by
  obtain ⟨k, rfl⟩ : ∃ q, k = q + 6 := ⟨k - 6, by omega⟩
  obtain ⟨k', rfl⟩ : ∃ q, k' = q + 5 := ⟨k' - 5, by omega⟩
  have l5 : Rd c0 m0 N o ((gf2_readLevel (k + 1)).1 (nI 5) (nI o)) (gf9_either k').2.2.2.2.2 := rd_five (gf2_readLevel k).1 (gf2_readLevel k).2.1 (gf2_readLevel k).2.2.1 (gf2_readLevel k).2.2.2 _ (h k k' (by omega) (by omega))
  have l4 : Rd c0 m0 N o ((gf2_readLevel (k + 2)).1 (nI 4) (nI o)) (gf9_either (k' + 1)).2.2.2.2.1 :=
    lv_step (lev := 4) t (by omega) (by omega) (gf2_readLevel (k + 1)).1 (gf2_readLevel (k + 1)).2.1 (gf2_readLevel (k + 1)).2.2.1 (gf2_readLevel (k + 1)).2.2.2 _ _ l5 (ts_prod t (gf9_either k').1 (gf9_either k').2.1 (gf9_either k').2.2.1 (gf9_either k').2.2.2.1 (gf9_either k').2.2.2.2.1 (gf9_either k').2.2.2.2.2)
  have l3 : Rd c0 m0 N o ((gf2_readLevel (k + 3)).1 (nI 3) (nI o)) (gf9_either (k' + 2)).2.2.2.1 :=
    lv_step (lev := 3) t (by omega) (by omega) (gf2_readLevel (k + 2)).1 (gf2_readLevel (k + 2)).2.1 (gf2_readLevel (k + 2)).2.2.1 (gf2_readLevel (k + 2)).2.2.2 _ _ l4 (ts_sum t (gf9_either (k' + 1)).1 (gf9_either (k' + 1)).2.1 (gf9_either (k' + 1)).2.2.1 (gf9_either (k' + 1)).2.2.2.1 (gf9_either (k' + 1)).2.2.2.2.1 (gf9_either (k' + 1)).2.2.2.2.2)
  have l2 : Rd c0 m0 N o ((gf2_readLevel (k + 4)).1 (nI 2) (nI o)) (gf9_either (k' + 3)).2.2.1 :=
    cmp_step t (gf2_readLevel (k + 3)).1 (gf2_readLevel (k + 3)).2.1 (gf2_readLevel (k + 3)).2.2.1 (gf2_readLevel (k + 3)).2.2.2 (gf9_either (k' + 2)).1 (gf9_either (k' + 2)).2.1 (gf9_either (k' + 2)).2.2.1 (gf9_either (k' + 2)).2.2.2.1 (gf9_either (k' + 2)).2.2.2.2.1 (gf9_either (k' + 2)).2.2.2.2.2 l3
  have l1 : Rd c0 m0 N o ((gf2_readLevel (k + 5)).1 (nI 1) (nI o)) (gf9_either (k' + 4)).2.1 :=
    lv_step (lev := 1) t (by omega) (by omega) (gf2_readLevel (k + 4)).1 (gf2_readLevel (k + 4)).2.1 (gf2_readLevel (k + 4)).2.2.1 (gf2_readLevel (k + 4)).2.2.2 _ _ l2
      (ts_one t 38 (by decide) 20001 op1 (by decide) _ (f9_both_b4 (gf9_either (k' + 3)).1 (gf9_either (k' + 3)).2.1 (gf9_either (k' + 3)).2.2.1 (gf9_either (k' + 3)).2.2.2.1 (gf9_either (k' + 3)).2.2.2.2.1 (gf9_either (k' + 3)).2.2.2.2.2) (fun n m => rfl))
  exact lv_step (lev := 0) t (by omega) (by omega) (gf2_readLevel (k + 5)).1 (gf2_readLevel (k + 5)).2.1 (gf2_readLevel (k + 5)).2.2.1 (gf2_readLevel (k + 5)).2.2.2 _ _ l1
      (ts_one t 124 (by decide) 20000 op0 (by decide) _ (f9_either_b4 (gf9_either (k' + 4)).1 (gf9_either (k' + 4)).2.1 (gf9_either (k' + 4)).2.2.1 (gf9_either (k' + 4)).2.2.2.1 (gf9_either (k' + 4)).2.2.2.2.1 (gf9_either (k' + 4)).2.2.2.2.2) (fun n m => rfl))
theorem rd_all {c0 m0 : JMu} {B : Nat → Int32} {N u : Nat} (t : TP c0 m0 B N u) : ∀ j o, o + j = 5 → RdAll c0 m0 N o j := by
  intro j
  induction j with
  | zero =>
    intro o ho
    have h : ∀ k k', 1 + 8 * 0 ≤ k → 1 + 6 * 0 ≤ k' → Rd c0 m0 N o ((gf2_readLevel k).2.1 (nI o)) (gf9_either k').2.2.2.2.2 := by
      intro k k' hk hk'
      obtain ⟨k, rfl⟩ : ∃ q, k = q + 1 := ⟨k - 1, by omega⟩
      obtain ⟨k', rfl⟩ : ∃ q, k' = q + 1 := ⟨k' - 1, by omega⟩
      exact single_step t (by omega) (gf2_readLevel k).1 (gf2_readLevel k).2.1 (gf2_readLevel k).2.2.1 (gf2_readLevel k).2.2.2 (gf9_either k').1 (gf9_either k').2.1 (gf9_either k').2.2.1 (gf9_either k').2.2.2.1 (gf9_either k').2.2.2.2.1 (gf9_either k').2.2.2.2.2
        (fun _ => none) (fun _ => none) (fun h => by omega) (fun h => by omega)
    exact ⟨h, rd_levels t h⟩
  | succ j ih =>
    intro o ho
    obtain ⟨ih1, ih2⟩ := ih (o + 1) (by omega)
    have h : ∀ k k', 1 + 8 * (j + 1) ≤ k → 1 + 6 * (j + 1) ≤ k' → Rd c0 m0 N o ((gf2_readLevel k).2.1 (nI o)) (gf9_either k').2.2.2.2.2 := by
      intro k k' hk hk'
      obtain ⟨k, rfl⟩ : ∃ q, k = q + 2 := ⟨k - 2, by omega⟩
      obtain ⟨k', rfl⟩ : ∃ q, k' = q + 1 := ⟨k' - 1, by omega⟩
      exact single_step t (by omega) (gf2_readLevel (k + 1)).1 (gf2_readLevel (k + 1)).2.1 (gf2_readLevel (k + 1)).2.2.1 (gf2_readLevel (k + 1)).2.2.2 (gf9_either k').1 (gf9_either k').2.1 (gf9_either k').2.2.1 (gf9_either k').2.2.2.1 (gf9_either k').2.2.2.2.1 (gf9_either k').2.2.2.2.2
        ((gf2_readLevel k).2.1 (nI (o + 1))) ((gf2_readLevel k).1 (nI 0) (nI (o + 1))) (fun _ => ⟨rfl, ih1 k k' (by omega) (by omega)⟩) (fun _ => ⟨rfl, ih2 k k' (by omega) (by omega)⟩)
    exact ⟨h, rd_levels t h⟩

/-! THE TWO FRESH OBJECTS SAY THE SAME -/
theorem R_0 : R μC μM := by
  have n0 : nT (μM 87) = 0 := by decide
  have b0 : nB (μM 87) = 0 := by decide
  have w0 : nW (μM 87) = 0 := by decide
  have nn : nN (μM 87) = 0 := by decide
  have c1 : cdL (μM 87) 106 = [] := by decide
  have c2 : cdL (μM 87) 158 = [] := by decide
  have tx : ∀ p, TXC μC p [] ↔ μC p 1 = nI 0 := fun p => ⟨fun h => h.1, fun h => ⟨h, fun k hk => absurd hk (Nat.not_lt_zero k)⟩⟩
  refine ⟨⟨by decide, by decide, by decide, by decide, fun t f ht => ?_, by decide, fun i hi => ?_, by decide, fun i hi => ?_, by decide, ?_, by decide, ?_⟩,
    ⟨⟨0, by omega, by decide⟩, ⟨0, by omega, by decide⟩, ⟨0, by omega, by decide⟩, ⟨0, by omega, by decide⟩, ⟨[], by decide, by simp, fun k hk => absurd hk (Nat.not_lt_zero k), Or.inl rfl⟩, ⟨[], by decide, by simp, fun k hk => absurd hk (Nat.not_lt_zero k), Or.inl rfl⟩, fun t ht => ?_, ⟨0, by omega, by decide⟩⟩,
    by omega, ⟨by decide, by decide⟩, by decide, fun h => absurd (by decide) h, fun k _ => rfl, ⟨by decide, by decide⟩, fun s hs => ?_, ⟨0, by omega, by decide, by decide, fun i hi => absurd hi (Nat.not_lt_zero i)⟩⟩
  · omega
  · omega
  · omega
  · rw [c1]; exact (tx _).mpr (by decide)
  · rw [c2]; exact (tx _).mpr (by decide)
  · omega
  · refine ⟨0, 0, by omega, rfl, Or.inl rfl, rfl, ?_, ?_, fun i hi => absurd hi (Nat.not_lt_zero i)⟩
    · rcases (show s = 0 ∨ s = 1 ∨ s = 2 ∨ s = 3 by omega) with rfl | rfl | rfl | rfl <;> decide
    · rcases (show s = 0 ∨ s = 1 ∨ s = 2 ∨ s = 3 by omega) with rfl | rfl | rfl | rfl <;> decide

/-! FROM THE LAW'S ENTRY: the statics, the texts -/
theorem tb_1 {w : Cond} {i : Nat} (h : tables_1_1[i]? = some w) : w ∈ lw_tbl := List.mem_append_right _ (List.mem_append_left _ (List.mem_of_getElem? h))
theorem tb_2 {w : Cond} {i : Nat} (h : tables_1_2[i]? = some w) : w ∈ lw_tbl := List.mem_append_right _ (List.mem_append_right _ (List.mem_append_left _ (List.mem_of_getElem? h)))
theorem tb_3 {w : Cond} {i : Nat} (h : tables_1_3[i]? = some w) : w ∈ lw_tbl := List.mem_append_right _ (List.mem_append_right _ (List.mem_append_right _ (List.mem_append_left _ (List.mem_of_getElem? h))))
theorem tb_4 {w : Cond} {i : Nat} (h : tables_1_4[i]? = some w) : w ∈ lw_tbl := List.mem_append_right _ (List.mem_append_right _ (List.mem_append_right _ (List.mem_append_right _ (List.mem_append_left _ (List.mem_of_getElem? h)))))
theorem tb_5 {w : Cond} {i : Nat} (h : tables_1_5[i]? = some w) : w ∈ lw_tbl := List.mem_append_right _ (List.mem_append_right _ (List.mem_append_right _ (List.mem_append_right _ (List.mem_append_right _ (List.mem_append_left _ (List.mem_of_getElem? h))))))
theorem tb_6 {w : Cond} {i : Nat} (h : tables_1_6[i]? = some w) : w ∈ lw_tbl := List.mem_append_right _ (List.mem_append_right _ (List.mem_append_right _ (List.mem_append_right _ (List.mem_append_right _ (List.mem_append_right _ (List.mem_of_getElem? h))))))
theorem st_A {s : State} {a : Array Value} (hs : ∀ c ∈ flatC (Jvm.Cond.and given_1 narrow_1), c.before a s = true) : ∀ j : Nat, j < 7 → (Cond.eq (.elem (.static "MoonRooms" "ABOVE" "[I") (.int (Int32.ofNat j))) (.int (jABOVE.getD j 0))).before a s = true := by
  intro j hj
  rcases (show j = 0 ∨ j = 1 ∨ j = 2 ∨ j = 3 ∨ j = 4 ∨ j = 5 ∨ j = 6 by omega) with rfl | rfl | rfl | rfl | rfl | rfl | rfl <;> exact hs _ (by decide +kernel)
theorem st_B {s : State} {a : Array Value} (hs : ∀ c ∈ flatC (Jvm.Cond.and given_1 narrow_1), c.before a s = true) : ∀ j : Nat, j < 28 → (Cond.eq (.elem (.static "MoonRooms$Speaker" "BODIES" "[I") (.int (Int32.ofNat j))) (.int (jBODIES.getD j 0))).before a s = true := by
  intro j hj
  rcases (show j = 0 ∨ j = 1 ∨ j = 2 ∨ j = 3 ∨ j = 4 ∨ j = 5 ∨ j = 6 ∨ j = 7 ∨ j = 8 ∨ j = 9 ∨ j = 10 ∨ j = 11 ∨ j = 12 ∨ j = 13 ∨ j = 14 ∨ j = 15 ∨ j = 16 ∨ j = 17 ∨ j = 18 ∨ j = 19 ∨ j = 20 ∨ j = 21 ∨ j = 22 ∨ j = 23 ∨ j = 24 ∨ j = 25 ∨ j = 26 ∨ j = 27 by omega) with rfl | rfl | rfl | rfl | rfl | rfl | rfl | rfl | rfl | rfl | rfl | rfl | rfl | rfl | rfl | rfl | rfl | rfl | rfl | rfl | rfl | rfl | rfl | rfl | rfl | rfl | rfl | rfl <;> exact hs _ (by decide +kernel)
def tmS (i : Nat) : Term := if i = 0 then .string "MoonRoomsModel" 24 else .string "MoonRoomsModel" 26
theorem st_ex {s : State} {a : Array Value} (hs : ∀ c ∈ flatC (Jvm.Cond.and given_1 narrow_1), c.before a s = true) : ∀ i : Nat, i < 2 → (Cond.exactly (tmS i) "java/lang/String").before a s = true := by
  intro i hi
  rcases (show i = 0 ∨ i = 1 by omega) with rfl | rfl <;> exact hs _ (by decide +kernel)
theorem st_co {s : State} {a : Array Value} (hs : ∀ c ∈ flatC (Jvm.Cond.and given_1 narrow_1), c.before a s = true) : ∀ i : Nat, i < 2 → (Cond.eq (.field (tmS i) "java/lang/String" "coder" "B") (.int 0)).before a s = true := by
  intro i hi
  rcases (show i = 0 ∨ i = 1 by omega) with rfl | rfl <;> exact hs _ (by decide +kernel)
theorem st_ar {s : State} {a : Array Value} (hs : ∀ c ∈ flatC (Jvm.Cond.and given_1 narrow_1), c.before a s = true) : ∀ i : Nat, i < 2 → (Cond.arrayOf (.field (tmS i) "java/lang/String" "value" "[B") .byte).before a s = true := by
  intro i hi
  rcases (show i = 0 ∨ i = 1 by omega) with rfl | rfl <;> exact hs _ (by decide +kernel)
theorem st_le {s : State} {a : Array Value} (hs : ∀ c ∈ flatC (Jvm.Cond.and given_1 narrow_1), c.before a s = true) : ∀ i : Nat, i < 2 → (Cond.eq (.length (.field (tmS i) "java/lang/String" "value" "[B")) (.int (Int32.ofNat (([3, 3] : List Nat).getD i 0)))).before a s = true := by
  intro i hi
  rcases (show i = 0 ∨ i = 1 by omega) with rfl | rfl <;> exact hs _ (by decide +kernel)
theorem st_el {s : State} {a : Array Value} (hs : ∀ c ∈ flatC (Jvm.Cond.and given_1 narrow_1), c.before a s = true) : ∀ i : Nat, i < 2 → ∀ j : Nat, j < ([3, 3] : List Nat).getD i 0 → (Cond.eq (.elem (.field (tmS i) "java/lang/String" "value" "[B") (.int (Int32.ofNat j))) (.int ((([[110, 112, 119], [114, 99, 113]] : List (List Int32)).getD i []).getD j 0))).before a s = true := by
  intro i hi j hj
  rw [len3 hi] at hj
  rcases (show i = 0 ∨ i = 1 by omega) with rfl | rfl <;> rcases (show j = 0 ∨ j = 1 ∨ j = 2 by omega) with rfl | rfl | rfl <;> exact hs _ (by decide +kernel)
theorem st_ne {s : State} {a : Array Value} (hs : ∀ c ∈ flatC (Jvm.Cond.and given_1 narrow_1), c.before a s = true) : ∀ i j : Nat, i < 2 → j < 2 → i ≠ j → (Cond.not (Cond.eq (tmS i) (tmS j))).before a s = true ∨ (Cond.not (Cond.eq (tmS j) (tmS i))).before a s = true := by
  intro i j hi hj h
  rcases (show i = 0 ∨ i = 1 by omega) with rfl | rfl <;> rcases (show j = 0 ∨ j = 1 by omega) with rfl | rfl
  · exact absurd rfl h
  · first | exact Or.inl (hs _ (by decide +kernel)) | exact Or.inr (hs _ (by decide +kernel))
  · first | exact Or.inl (hs _ (by decide +kernel)) | exact Or.inr (hs _ (by decide +kernel))
  · exact absurd rfl h
theorem nE_of {s : State} {a : Array Value} (b : Nat) (hts : ∀ w ∈ lw_tbl, w.before a s = true) (hgv : (Jvm.Cond.and given_1 narrow_1).before a s = true) : ∃ ad : Nat → Nat, ad 300 = b ∧ nE ad (fun q => s.heap.size ≤ q) s := by
  have hs := flat_of_before _ hgv
  have hA : ∀ x : Nat, x < s.heap.size → ¬ (fun q : Nat => s.heap.size ≤ q) x := fun x h => Nat.not_le.mpr h
  obtain ⟨tA, eA, TA⟩ := va_Tof (tm := .static "MoonRooms" "ABOVE" "[I") (ty := .int) (N := 7) (f := fun j => .int (jABOVE.getD j 0)) (by omega) (hs _ (by decide +kernel)) (va_eqt (hs (Cond.eq (.length (.static "MoonRooms" "ABOVE" "[I")) (.int (Int32.ofNat 7))) (by decide +kernel))) (fun j hj => va_eqt (st_A hs j hj)) hA
  obtain ⟨tB, eB, TB⟩ := va_Tof (tm := .static "MoonRooms$Speaker" "BODIES" "[I") (ty := .int) (N := 28) (f := fun j => .int (jBODIES.getD j 0)) (by omega) (hs _ (by decide +kernel)) (va_eqt (hs (Cond.eq (.length (.static "MoonRooms$Speaker" "BODIES" "[I")) (.int (Int32.ofNat 28))) (by decide +kernel))) (fun j hj => va_eqt (st_B hs j hj)) hA
  have ZA := va_Zof (hts _ (tb_2 (i := 86) rfl)) (hts _ (tb_1 (i := 1) rfl)) eA hA
  have ZB := va_Zof (hts _ (tb_3 (i := 172) rfl)) (hts _ (tb_1 (i := 8) rfl)) eB hA
  have ZC := va_Zof (C := "java/lang/String") (n := "COMPACT_STRINGS") (d := "Z") (v := .int 1) (hts _ (tb_4 (i := 156) rfl)) (hts _ (tb_1 (i := 14) rfl)) (va_eqt (hs _ (by decide +kernel))) hA
  have ZF := va_Zqof (C := "jdk/internal/util/Preconditions") (n := "SIOOBE_FORMATTER") (d := "Ljava/util/function/BiFunction;") (hts _ (tb_4 (i := 172) rfl)) (hts _ (tb_1 (i := 16) rfl)) (hs _ (by decide +kernel)) hA
  obtain ⟨adK, adV, hk, hr⟩ := vk_Sof (N := 2) (tm := tmS) (len := [3, 3]) (byt := [[110, 112, 119], [114, 99, 113]]) (fun i hi => by rw [len3 hi]; omega) (st_ex hs) (st_co hs) (st_ar hs) (st_le hs) (st_el hs) (st_ne hs) hA
  obtain ⟨tF, hF⟩ : ∃ tF : Nat, va_Z "jdk/internal/util/Preconditions" "SIOOBE_FORMATTER" "Ljava/util/function/BiFunction;" .null (fun q => s.heap.size ≤ q) s s.heap ∨ va_Z "jdk/internal/util/Preconditions" "SIOOBE_FORMATTER" "Ljava/util/function/BiFunction;" (.ref tF) (fun q => s.heap.size ≤ q) s s.heap := by
    rcases ZF with h | ⟨t, h⟩
    · exact ⟨0, Or.inl h⟩
    · exact ⟨t, Or.inr h⟩
  have r0 : Term.eval a s none [] s (.string "MoonRoomsModel" 24) = some (.ref (adK 0)) := hr 0 (by omega)
  have r1 : Term.eval a s none [] s (.string "MoonRoomsModel" 26) = some (.ref (adK 1)) := hr 1 (by omega)
  refine ⟨fun p => if p = 200 then tA else if p = 201 then tB else if p = 206 then tF else if p = 300 then b else if p < 204 then adK (p - 202) else adV (p - 204), rfl, jTW_of hts, ⟨va_AO.of (hts _ (tb_1 (i := 33) rfl)), va_AO.of (hts _ (tb_1 (i := 199) rfl)), va_AO.of (hts _ (tb_4 (i := 5) rfl))⟩, ⟨⟨ZA, TA⟩, ⟨ZB, TB⟩, ZC, hF, ?_⟩, vk_R.of (hts _ (tb_4 (i := 6) rfl)) r0, vk_R.of (hts _ (tb_4 (i := 7) rfl)) r1⟩
  have f1 : ∀ i, i < 2 → (if 202 + i = 200 then tA else if 202 + i = 201 then tB else if 202 + i = 206 then tF else if 202 + i = 300 then b else if 202 + i < 204 then adK (202 + i - 202) else adV (202 + i - 204)) = adK i := by
    intro i hi
    rw [if_neg (by omega), if_neg (by omega), if_neg (by omega), if_neg (by omega), if_pos (by omega), show 202 + i - 202 = i by omega]
  have f2 : ∀ i, i < 2 → (if 204 + i = 200 then tA else if 204 + i = 201 then tB else if 204 + i = 206 then tF else if 204 + i = 300 then b else if 204 + i < 204 then adK (204 + i - 202) else adV (204 + i - 204)) = adV i := by
    intro i hi
    rw [if_neg (by omega), if_neg (by omega), if_neg (by omega), if_neg (by omega), if_neg (by omega), show 204 + i - 204 = i by omega]
  refine ⟨fun i hi => ?_, fun i j hi hj e => hk.2 i j hi hj ?_⟩
  · have q := hk.1 i hi
    dsimp only
    rw [f1 i hi, f2 i hi]
    exact q
  · dsimp only at e
    rw [f1 i hi, f1 j hj] at e
    exact e

/-! FROM THE LAW'S ENTRY: what the start gives -/
def refs (p : Nat) : List Nat := match jSh p with
  | .inl (_, fs) => fs.filterMap id
  | .inr (.inl _) => []
  | .inr (.inr (_, l)) => l.filterMap id
theorem refs_c : ∀ p ∈ cPl, ∀ q ∈ refs p, q < 86 := by decide +kernel
theorem refs_m : ∀ p ∈ mPl, ∀ q ∈ refs p, (86 ≤ q ∧ q < 102) ∨ q = 202 ∨ q = 203 := by decide +kernel
theorem cPl_lt : ∀ p ∈ cPl, p < 86 := by decide +kernel
theorem mPl_in : ∀ p ∈ mPl, 86 ≤ p ∧ p < 102 := by decide +kernel
theorem jCell_cg {ad ad' : Nat → Nat} {cA : Nat → ClassId} {μ : JMu} {p : Nat} (h : ∀ q ∈ refs p, ad q = ad' q) : jCell ad cA μ p = jCell ad' cA μ p := by
  unfold refs at h
  unfold jCell
  cases hs : jSh p with
  | inl x =>
    obtain ⟨ci, fs⟩ := x
    rw [hs] at h
    simp only at h ⊢
    congr 2
    apply List.ext_getElem?
    intro j
    simp only [List.getElem?_mapIdx]
    cases hj : fs[j]? with
    | none => rfl
    | some o =>
      cases o with
      | none => rfl
      | some q =>
        have := h q (List.mem_filterMap.mpr ⟨some q, List.mem_of_getElem? hj, rfl⟩)
        simp [jfv, this]
  | inr x =>
    cases x with
    | inl n => rfl
    | inr y =>
      obtain ⟨t, l⟩ := y
      rw [hs] at h
      simp only at h ⊢
      congr 7
      funext k
      cases hk : l[k]? with
      | none => rfl
      | some o =>
        cases o with
        | none => rfl
        | some q =>
          have := h q (List.mem_filterMap.mpr ⟨some q, List.mem_of_getElem? hk, rfl⟩)
          simp [this]
theorem jW_cg {ad ad' : Nat → Nat} {cA : Nat → ClassId} {μ : JMu} {Pl : List Nat} (h1 : ∀ p ∈ Pl, ad p = ad' p) (h2 : ∀ p ∈ Pl, ∀ q ∈ refs p, ad q = ad' q) : jW ad cA μ Pl = jW ad' cA μ Pl := by
  unfold jW
  apply List.map_congr_left
  intro p hp
  rw [h1 p hp, jCell_cg (h2 p hp)]
theorem va_D_fst {A : Nat → Prop} {ws ws' : va_W} (h : va_D A ws) (e : ws.map Prod.fst = ws'.map Prod.fst) : va_D A ws' := by
  have key : ∀ (k : Nat) (q : Nat × va_E), ws'[k]? = some q → ∃ q', ws[k]? = some q' ∧ q'.1 = q.1 := by
    intro k q hq
    have h1 : (ws'.map Prod.fst)[k]? = some q.1 := by rw [List.getElem?_map, hq]; rfl
    rw [← e, List.getElem?_map] at h1
    cases hp : ws[k]? with
    | none => rw [hp] at h1; cases h1
    | some p => rw [hp] at h1; exact ⟨p, rfl, Option.some.inj h1⟩
  refine ⟨fun i j x y hi hj hxy => ?_, fun k q hk => ?_⟩
  · obtain ⟨x', h1, h2⟩ := key i x hi
    obtain ⟨y', h3, h4⟩ := key j y hj
    exact h.1 i j x' y' h1 h3 (h2.trans (hxy.trans h4.symm))
  · obtain ⟨q', h1, h2⟩ := key k q hk
    rw [← h2]; exact h.2 k q' h1
theorem jW_fst (ad : Nat → Nat) (cA : Nat → ClassId) (μ : JMu) (Pl : List Nat) : (jW ad cA μ Pl).map Prod.fst = Pl.map ad := by
  unfold jW; rw [List.map_map]; rfl
theorem jTW_of {s : State} {a : Array Value} (hts : ∀ w ∈ lw_tbl, w.before a s = true) : jTW s := by
  intro w hw
  have h1 := hts w hw.1
  have h2 := hw.2
  unfold jGood at h2
  rcases Bool.or_eq_true_iff.mp h2 with h3 | h3
  · exact word_at (State.WarmedH.refl s) (Or.inl h3) h1
  · cases w <;> first | (cases h3; done) | exact word_at (State.WarmedH.refl s) (Or.inr ⟨_, rfl⟩) h1 | exact va_Nw.of rfl h1
theorem K_of {s : State} {a : Array Value} (hts : ∀ w ∈ lw_tbl, w.before a s = true) : ∃ D : va_G, ∀ (k : Nat) (q : vw_C), vwCl[k]? = some q → u_Kn s q.1 q.2.1 q.2.2 (D.1 k) (D.2 k) := by
  have one : ∀ {ci : Nat} {C : String} {T : u_T} {N : Nat} {ty : Nat → FieldType}, jCl ci C T N ty → ∀ {n : Nat}, jWd (.instantiable C n) → ∃ (x : ClassId) (y : Nat → Nat), u_Kn s C T N x y := by
    intro ci C T N ty hc n hi
    exact u_known (n := n) hts (fun w hw => (hc.2.1 w hw).1) (hts _ hi.1)
  have all : ∀ k : Nat, ∃ z : ClassId × (Nat → Nat), ∀ q : vw_C, vwCl[k]? = some q → u_Kn s q.1 q.2.1 q.2.2 z.1 z.2 := by
    have use : ∀ {k : Nat} {C : String} {T : u_T} {N : Nat} (_ : vwCl[k]? = some (C, T, N)) (_ : ∃ (x : ClassId) (y : Nat → Nat), u_Kn s C T N x y), ∃ z : ClassId × (Nat → Nat), ∀ q : vw_C, vwCl[k]? = some q → u_Kn s q.1 q.2.1 q.2.2 z.1 z.2 := by
      intro k C T N hk ⟨x, y, h⟩
      refine ⟨(x, y), fun q hq => ?_⟩
      rw [hk] at hq
      cases hq
      exact h
    intro k
    match k with
    | 0 => exact use rfl (one jcl_X0 ni_X0)
    | 1 => exact use rfl (one jcl_X1 ni_X1)
    | 2 => exact use rfl (one jcl_X2 ni_X2)
    | 3 => exact use rfl (one jcl_X3 ni_X3)
    | 4 => exact use rfl (one jcl_X4 ni_X4)
    | 5 => exact use rfl (one jcl_X5 ni_X5)
    | 6 => exact use rfl (one jcl_X6 ni_X6)
    | 7 => exact use rfl (one jcl_X7 ni_X7)
    | 8 => exact use rfl (one jcl_X8 ni_X8)
    | 9 => exact use rfl (one jcl_X9 ni_X9)
    | k + 10 => exact ⟨(0, fun _ => 0), fun q hq => by simp at hq⟩
  obtain ⟨f, hf⟩ := Classical.axiomOfChoice all
  exact ⟨(fun k => (f k).1, fun k => (f k).2), fun k q hq => hf k q hq⟩
theorem AO_RA {C : String} {s : State} (h : va_AO C s) : ∃ cA : ClassId, ArrOfT s cA (.object C) ∧ va_RA s cA (.object C) := by
  obtain ⟨comp, c, k, h1, -, h3, h4, h5⟩ := Cond.arrayOver_spec h
  exact ⟨c, fun N z => ⟨(fun j hj => by cases hj), k, h3, comp, h4⟩, k, comp, h3, h4, h1, h5⟩
theorem AI_RA {s : State} {a : Array Value} (h : (Cond.arrayClass .int).before a s = true) : ∃ cA : ClassId, ArrOfT s cA .int ∧ va_RA s cA .int := by
  obtain ⟨cA, kA, comp, h1, h2, h3⟩ := Cond.arrayClass_spec h
  exact ⟨cA, fun N z => ⟨(fun j hj => by cases hj), kA, h2, comp, h3⟩, h1⟩
theorem K_all {s : State} {a : Array Value} (hts : ∀ w ∈ lw_tbl, w.before a s = true) (ao : va_AO "MoonRooms$Tenant" s ∧ va_AO "MoonRooms$Sheet" s ∧ va_AO "java/lang/String" s) : ∃ (D : va_G) (cA : Nat → ClassId), va_K D vwCl (jty cA) s := by
  obtain ⟨D, hD⟩ := K_of hts
  obtain ⟨c0, a0, b0⟩ := AI_RA (hts _ na_i.1)
  obtain ⟨c1, a1, b1⟩ := AO_RA ao.1
  obtain ⟨c2, a2, b2⟩ := AO_RA ao.2.1
  obtain ⟨c3, a3, b3⟩ := AO_RA ao.2.2
  refine ⟨D, fun k => if k = 0 then c0 else if k = 1 then c1 else if k = 2 then c2 else c3, hD, fun k q hq => ?_⟩
  match k, hq with
  | 0, hq => cases hq; exact ⟨a0, b0⟩
  | 1, hq => cases hq; exact ⟨a1, b1⟩
  | 2, hq => cases hq; exact ⟨a2, b2⟩
  | 3, hq => cases hq; exact ⟨a3, b3⟩
  | k + 4, hq => simp [jty] at hq

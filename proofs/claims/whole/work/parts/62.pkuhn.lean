/-! ROOMS: who gets one (the check's search) -/
def Wm (m : JMu) (u c : Nat) : Bool := bt (m 95 u) c
def HK (n : Nat) (m : JMu) : Prop := ∀ c, c < 24 → m 96 c = -1 ∨ ∃ u, u < n ∧ m 96 c = nI u ∧ Wm m u c = true
def cH (m : JMu) (u : Nat) : Nat := fb_ct (fun c => decide (m 96 c = nI u)) 24
def Cl (n : Nat) (m : JMu) (D : Nat → Bool) : Prop := ∀ c, c < 24 → D c = true → ∃ u, u < n ∧ m 96 c = nI u ∧ ∀ y, y < 24 → Wm m u y = true → D y = true
def fK (m m' : JMu) : Prop := (∀ q, q ≠ 86 → q ≠ 96 → m' q = m q) ∧ (∀ j, j ≠ 16 → m' 86 j = m 86 j)
def unm (m : JMu) : Nat := fb_ct (fun c => !bt (m 86 16) c) 24
def GoodF (n v : Nat) (m m' : JMu) : Prop := m' 96 = m 96 ∧ (∀ c, c < 24 → Wm m v c = true → bt (m' 86 16) c = true) ∧ (∀ c, c < 24 → bt (m' 86 16) c = true → bt (m 86 16) c = false → ∃ u, u < n ∧ m 96 c = nI u ∧ ∀ y, y < 24 → Wm m u y = true → bt (m' 86 16) y = true)
def GoodS (n v : Nat) (m m' : JMu) : Prop := (∀ c, c < 24 → bt (m 86 16) c = true → m' 96 c = m 96 c) ∧ (∀ c, c < 24 → m 96 c ≠ -1 → m' 96 c ≠ -1) ∧ (∀ u, u < n → cH m' u = cH m u + (if u = v then 1 else 0)) ∧
  (∀ D, Cl n m D → (¬ ∀ y, y < 24 → Wm m v y = true → D y = true) ∧ ∀ c, c < 24 → D c = true → m' 96 c = m 96 c)
def GSpec (n k : Nat) : Prop := ∀ v m, v < n → HK n m → unm m < k → ∃ m', fK m m' ∧ HK n m' ∧ (∀ c, c < 24 → bt (m 86 16) c = true → bt (m' 86 16) c = true) ∧
  ((gf9_gets k (nI v) m = some (0, m') ∧ GoodF n v m m') ∨ (gf9_gets k (nI v) m = some (1, m') ∧ GoodS n v m m'))
theorem fK_rf (m : JMu) : fK m m := ⟨fun _ _ _ => rfl, fun _ _ => rfl⟩
theorem fK_tr {a b c : JMu} (x : fK a b) (y : fK b c) : fK a c := ⟨fun q h1 h2 => (y.1 q h1 h2).trans (x.1 q h1 h2), fun j h => (y.2 j h).trans (x.2 j h)⟩
theorem fK_16 (m : JMu) (v : Int32) : fK m (jup m 86 16 v) := ⟨fun q h1 h2 => jup_row h1, fun j h => jup_col h⟩
theorem fK_96 (m : JMu) (k : Nat) (v : Int32) : fK m (jup m 96 k v) := ⟨fun q h1 h2 => jup_row h2, fun j h => by rw [jup_row (by omega)]⟩
theorem fK_W {m m' : JMu} (h : fK m m') (u c : Nat) : Wm m' u c = Wm m u c := by unfold Wm; rw [h.1 95 (by omega) (by omega)]
/-- marking a cell -/
theorem met_bt (m : JMu) {x : Nat} (hx : x < 24) {c : Nat} (hc : c < 32) : bt ((jup m 86 16 (m 86 16 ||| ((1 : Int32) <<< (nI x &&& 31)))) 86 16) c = (bt (m 86 16) c || decide (c = x)) := by
  rw [jup_self, b_or, b_one x (by omega) hc]
theorem unm_mark (m : JMu) {x : Nat} (hx : x < 24) (h : bt (m 86 16) x = false) : unm (jup m 86 16 (m 86 16 ||| ((1 : Int32) <<< (nI x &&& 31)))) + 1 = unm m := by
  have u := ct_or1 (fun c => !bt (m 86 16) c) x hx
  rw [if_pos (by rw [h]; rfl)] at u
  unfold unm
  rw [← u]
  congr 1
  apply fb_ct_cong
  intro c hc
  rw [met_bt m hx (by omega)]
  cases bt (m 86 16) c <;> cases decide (c = x) <;> rfl
theorem cH_up (m : JMu) {x : Nat} (hx : x < 24) (v u : Nat) (hv : v < 2 ^ 31) (hu : u < 2 ^ 31) : cH (jup m 96 x (nI v)) u + (if m 96 x = nI u then 1 else 0) = cH m u + (if v = u then 1 else 0) := by
  have h := fb_ct_upd (fun c => decide (m 96 c = nI u)) (decide (v = u)) (i := x) (n := 24) hx
  have e : cH (jup m 96 x (nI v)) u = fb_ct (fun k => if k = x then decide (v = u) else decide (m 96 k = nI u)) 24 := fb_ct_cong (fun c _ => by
    rw [jup_at]
    by_cases q : c = x
    · rw [if_pos q, if_pos q]
      exact decide_eq_decide.mpr (nI_eq hv hu)
    · rw [if_neg q, if_neg q])
  rw [e]
  unfold cH
  have e1 : (if decide (m 96 x = nI u) = true then 1 else 0) = (if m 96 x = nI u then 1 else 0) := by
    by_cases q : m 96 x = nI u <;> simp [q]
  have e2 : (if decide (v = u) = true then 1 else 0) = (if v = u then 1 else 0) := by
    by_cases q : v = u <;> simp [q]
  rw [← e1, ← e2]
  exact h

/-! LAYER 2: the functions of the two sides held against each other. Tools. -/
theorem g_bi_s {β : Type} {z : Int} {s : gS} {f : Int → gS → Option β} : g_bi (some (z, s)) f = f z s := rfl
theorem g_le_s {α β : Type} {x : α} {f : α → Option β} : g_le x f = f x := rfl
theorem g_up_at (s : gS) (q k i j : Nat) (z : Int) : g_up s q k z i j = if i = q ∧ j = k then z else s i j := rfl
theorem up_n {s : gS} {q k i j : Nat} {z : Int} (h : ¬ (i = q ∧ j = k)) : g_up s q k z i j = s i j := by rw [g_up_at, if_neg h]
theorem up_y {s : gS} {q k : Nat} {z : Int} : g_up s q k z q k = z := by rw [g_up_at, if_pos ⟨rfl, rfl⟩]
theorem w32_01 {z : Int} (h : z = 0 ∨ z = 1) : w32 z = z := by rcases h with rfl | rfl <;> decide
theorem i_nar_01 {z : Int} (h : z = 0 ∨ z = 1) : i_nar .boolean z = z := by rcases h with rfl | rfl <;> decide
theorem ite_some {α : Type} {c : Prop} {h : Decidable c} {a b : Option α} {x : α} (h1 : c → a = some x) (h2 : ¬ c → b = some x) : (if c then a else b) = some x := by
  by_cases hc : c
  · rw [if_pos hc]; exact h1 hc
  · rw [if_neg hc]; exact h2 hc
/-- cells of the press on the class's side; places of the press on the model's -/
def pcC (q : Nat) : Bool := decide (37 ≤ q) && decide (q ≤ 45)
def pcM (q k : Nat) : Bool := (decide (q = 49) && (decide (k = 0) || (decide (40 ≤ k) && decide (k ≤ 47)))) || (decide (67 ≤ q) && decide (q ≤ 73))
def fC (P : Nat → Bool) (c c' : gS) : Prop := ∀ q, P q = false → c' q = c q
def fM (P : Nat → Nat → Bool) (m m' : gS) : Prop := ∀ q k, P q k = false → m' q k = m q k
theorem fC_rf (P : Nat → Bool) (c : gS) : fC P c c := fun _ _ => rfl
theorem fM_rf (P : Nat → Nat → Bool) (m : gS) : fM P m m := fun _ _ _ => rfl
theorem fC_tr {P : Nat → Bool} {a b c : gS} (h : fC P a b) (h2 : fC P b c) : fC P a c := fun q hq => (h2 q hq).trans (h q hq)
theorem fM_tr {P : Nat → Nat → Bool} {a b c : gS} (h : fM P a b) (h2 : fM P b c) : fM P a c := fun q k hq => (h2 q k hq).trans (h q k hq)
theorem fC_up {P : Nat → Bool} {c : gS} {q k : Nat} {z : Int} (h : P q = true) : fC P c (g_up c q k z) := by
  intro i hi
  refine g_up_ne fun e => ?_
  rw [e, h] at hi
  cases hi
theorem fM_up {P : Nat → Nat → Bool} {m : gS} {q k : Nat} {z : Int} (h : P q k = true) : fM P m (g_up m q k z) := by
  intro i j hi
  rw [g_up_at, if_neg]
  rintro ⟨rfl, rfl⟩
  rw [h] at hi
  cases hi
/-- how many of the first n are not 0 -/
def cnt (f : Nat → Int) : Nat → Int
  | 0 => 0
  | n + 1 => cnt f n + if f n = 0 then 0 else 1
theorem cnt_lo (f : Nat → Int) (n : Nat) : 0 ≤ cnt f n := by
  induction n with
  | zero => exact Int.le_refl 0
  | succ n ih => simp only [cnt]; split <;> omega
theorem cnt_hi (f : Nat → Int) (n : Nat) : cnt f n ≤ n := by
  induction n with
  | zero => exact Int.le_refl 0
  | succ n ih => simp only [cnt]; split <;> omega
theorem cnt_all {f : Nat → Int} {n : Nat} (h : cnt f n = n) : ∀ k, k < n → f k ≠ 0 := by
  induction n with
  | zero => intro k hk; omega
  | succ n ih =>
    intro k hk
    have h1 := cnt_hi f n
    simp only [cnt] at h
    split at h
    · omega
    · rcases (show k = n ∨ k < n by omega) with rfl | hk2
      · assumption
      · exact ih (by omega) k hk2
theorem cnt_congr {f g : Nat → Int} {n : Nat} (h : ∀ k, k < n → f k = g k) : cnt f n = cnt g n := by
  induction n with
  | zero => rfl
  | succ n ih => simp only [cnt]; rw [ih fun k hk => h k (by omega), h n (by omega)]
theorem cnt_set {f g : Nat → Int} {n j : Nat} (hj : j < n) (h0 : f j = 0) (h1 : g j ≠ 0) (h : ∀ k, k ≠ j → g k = f k) : cnt g n = cnt f n + 1 := by
  induction n with
  | zero => omega
  | succ n ih =>
    simp only [cnt]
    rcases (show j = n ∨ j < n by omega) with rfl | hjn
    · rw [cnt_congr (f := g) (g := f) fun k hk => h k (by omega), if_neg h1, if_pos h0]
      omega
    · rw [ih hjn, h n (by omega)]
      omega
/-! the press: what the two sides have in common -/
def sdsM (m : gS) : Int := if m 49 12 = 0 then 1 else 2
/-- equal numbers -/
def pE (c m : gS) : Prop := c 40 6 = m 49 41 ∧ c 40 7 = m 49 40 ∧ c 40 8 = m 49 46 ∧ c 40 9 = m 49 42 ∧ c 40 10 = m 49 43 ∧ c 40 11 = m 49 47 ∧ c 37 2 = m 49 45 ∧ c 37 3 = m 49 44 ∧ c 37 5 = m 49 12
/-- equal sections -/
def pS (c m : gS) : Prop := ∀ i, i < 4 → c 41 i = m 67 i ∧ c 42 i = m 68 i ∧ c 43 i = m 71 i ∧ (m 71 i = 0 ∨ m 71 i = 1)
/-- ranges -/
def pG (n : Int) (m : gS) : Prop := 0 ≤ m 49 41 ∧ m 49 41 ≤ 100 ∧ 0 ≤ m 49 40 ∧ m 49 40 ≤ 500 ∧ (m 49 46 = 0 ∨ m 49 46 = 1) ∧ (m 49 47 = 0 ∨ m 49 47 = 1) ∧ 0 ≤ n ∧ (m 49 12 = 0 ∨ m 49 12 = 1)
/-- sheets that are out -/
def pO (c m : gS) : Prop := 0 ≤ m 49 45 ∧ m 49 45 ≤ m 49 44 ∧ m 49 44 ≤ 32 ∧ m 49 45 = cnt (m 73) (m 49 44).toNat ∧ ((0 < m 49 44 → ∀ i, i < 32 → c 39 i = m 73 i ∧ (m 73 i = 0 ∨ m 73 i = 1)) ∧ (m 49 44 = 0 → ∀ i, i < 32 → c 39 i = 0)) ∧ ∀ i : Nat, (i : Int) < m 49 45 → c 38 i = m 70 i ∧ 0 ≤ m 70 i ∧ m 70 i < m 49 44
/-- sheets that are inside -/
def pI (m : gS) : Prop := (∀ i, i < 4 → (m 67 i = -1 ∨ (0 ≤ m 67 i ∧ m 67 i < m 49 44 ∧ m 73 (m 67 i).toNat = 0)) ∧ 0 ≤ m 68 i ∧ m 68 i ≤ 2 ∧ (m 67 i ≠ -1 → m 68 i ≤ sdsM m ∧ (i ≠ 2 → m 68 i < sdsM m))) ∧ ∀ i j, i < 4 → j < 4 → i ≠ j → m 67 i ≠ -1 → m 67 i ≠ m 67 j
/-- ticks in a row -/
def pK (c m : gS) : Prop := ∀ i, i < 4 → (c 45 i = m 69 i ∨ m 67 i = -1 ∨ m 49 47 = 1) ∧ 0 ≤ m 69 i ∧ m 69 i ≤ 3 ∧ 0 ≤ c 45 i ∧ c 45 i ≤ 4
/-- what a sheet is -/
def pQ (c m : gS) : Prop := ((m 49 5 = 2 ∨ m 49 44 = 0) ∧ c 37 4 = m 49 11) ∧ (0 < m 49 44 → c 37 4 = m 49 11 ∧ 1 ≤ m 49 11 ∧ m 49 11 ≤ 4 ∧ c 37 6 = m 49 8 ∧ 0 ≤ m 49 8 ∧ m 49 8 ≤ 8 ∧ c 37 7 = (if m 49 12 = 0 then m 49 8 else (m 49 8 + 1) / 2) ∧ m 49 44 = m 49 11 * c 37 7)
def RP (n : Int) (c m : gS) : Prop := pE c m ∧ pS c m ∧ pG n m ∧ pO c m ∧ pI m ∧ pK c m ∧ pQ c m

/-! the next sheet to make; feeding -/
abbrev inn (f : Nat → Int) (l : Int) : Prop := f 0 = l ∨ f 1 = l ∨ f 2 = l ∨ f 3 = l
theorem isIn_step {k : Int → Int → gS → gA} {l : Int} {j : Nat} {s : gS} (hj : j < 4) : Machine_isInside_2 k l j s = if w32 (s 41 j) = w32 l then some (1, s) else k l ((j + 1 : Nat) : Int) s := by
  unfold Machine_isInside_2
  rw [w_nat (by omega), if_neg (by omega), if_pos (by omega), Int.toNat_natCast]
  rfl
theorem isIn_end {k : Int → Int → gS → gA} {l : Int} {s : gS} : Machine_isInside_2 k l ((4 : Nat) : Int) s = some (0, s) := by
  unfold Machine_isInside_2
  rw [if_pos (by decide)]
theorem isIn {l : Int} {s : gS} (hl : w32 l = l) (h : ∀ i, i < 4 → w32 (s 41 i) = s 41 i) : (inn (s 41) l → Machine_isInside l s = some (1, s)) ∧ (¬ inn (s 41) l → Machine_isInside l s = some (0, s)) := by
  have e : Machine_isInside l s = if s 41 0 = l then some (1, s) else if s 41 1 = l then some (1, s) else if s 41 2 = l then some (1, s) else if s 41 3 = l then some (1, s) else some (0, s) := by
    show Machine_isInside_2 (Machine_isInside_2 (Machine_isInside_2 (Machine_isInside_2 (Machine_isInside_2 (Machine_isInside_2L 999999999995))))) l ((0 : Nat) : Int) s = _
    rw [isIn_step (by decide), isIn_step (by decide), isIn_step (by decide), isIn_step (by decide), isIn_end, hl, h 0 (by decide), h 1 (by decide), h 2 (by decide), h 3 (by decide)]
  rw [e]
  unfold inn
  constructor
  · intro q
    repeat' split
    all_goals first | rfl | omega
  · intro q
    rw [if_neg (by omega), if_neg (by omega), if_neg (by omega), if_neg (by omega)]
theorem tm_step {k27 : Int → Int → Int → gS → gA} {k58 : Int → Int → gS → gA} {l b : Int} {j : Nat} {s : gS} (hj : j < 4) (hb : b = 0 ∨ b = 1) : M_toMake_27 k27 k58 l b j s = k27 l (if b = 1 ∧ ¬ w32 (s 67 j) = w32 l then 1 else 0) ((j + 1 : Nat) : Int) s := by
  unfold M_toMake_27 M_toMake_50 M_toMake_51
  rw [w_nat (by omega), if_neg (by omega), w32_01 hb, if_pos (show (0 : Int) ≤ j ∧ (j : Int) < 4 by omega), Int.toNat_natCast]
  rcases hb with rfl | rfl
  · simp
  · by_cases e : w32 (s 67 j) = w32 l <;> simp [e]
theorem tm_end {k27 : Int → Int → Int → gS → gA} {k58 : Int → Int → gS → gA} {l b : Int} {s : gS} : M_toMake_27 k27 k58 l b ((4 : Nat) : Int) s = k58 l b s := by
  unfold M_toMake_27
  rw [if_pos (by decide)]
theorem b01 {p : Prop} [Decidable p] : (if p then (1 : Int) else 0) = 0 ∨ (if p then (1 : Int) else 0) = 1 := by split <;> simp
theorem tm_in {k : Int → gS → gA} {l b : Int} {s : gS} (hb : b = 0 ∨ b = 1) (hl : w32 l = l) (h : ∀ i, i < 4 → w32 (s 67 i) = s 67 i) : (b = 1 ∧ ¬ inn (s 67) l → M_toMake_24 k l b s = some (l, s)) ∧ (¬ (b = 1 ∧ ¬ inn (s 67) l) → M_toMake_24 k l b s = k (l + 1) s) := by
  have e : M_toMake_24 k l b s = M_toMake_58 k l (if b = 1 ∧ ¬ inn (s 67) l then 1 else 0) s := by
    show M_toMake_27 (M_toMake_27 (M_toMake_27 (M_toMake_27 (M_toMake_27 (M_toMake_27L (M_toMake_58 k) 999999999995) (M_toMake_58 k)) (M_toMake_58 k)) (M_toMake_58 k)) (M_toMake_58 k)) (M_toMake_58 k) l b ((0 : Nat) : Int) s = _
    rw [tm_step (by decide) hb, tm_step (by decide) b01, tm_step (by decide) b01, tm_step (by decide) b01, tm_end, hl, h 0 (by decide), h 1 (by decide), h 2 (by decide), h 3 (by decide)]
    congr 1
    unfold inn
    by_cases b1 : b = 1 <;> by_cases e0 : s 67 0 = l <;> by_cases e1 : s 67 1 = l <;> by_cases e2 : s 67 2 = l <;> by_cases e3 : s 67 3 = l <;> simp [b1, e0, e1, e2, e3]
  rw [e]
  unfold M_toMake_58
  constructor
  · intro q
    rw [if_pos q, if_neg (by decide)]
  · intro q
    rw [if_neg q, if_pos (by decide)]
/-- both searches, from l on -/
theorem next_both {c m : gS} (hc3 : c 37 3 = m 49 44) (h32 : m 49 44 ≤ 32) (h0 : 0 ≤ m 49 44) (h41 : ∀ i, i < 4 → c 41 i = m 67 i) (hw : ∀ i, i < 4 → w32 (m 67 i) = m 67 i) (h39 : 0 < m 49 44 → ∀ i, i < 32 → c 39 i = m 73 i ∧ (m 73 i = 0 ∨ m 73 i = 1)) :
    ∀ (d l N : Nat), (l : Int) + d = m 49 44 → ∃ z : Int, Machine_nextToMake_14L (N + d + 1) l c = some (z, c) ∧ M_toMake_2L (N + d + 1) l m = some (z, m) ∧ (z = -1 ∨ (0 ≤ z ∧ z < m 49 44 ∧ m 73 z.toNat = 0 ∧ ¬ inn (m 67) z)) := by
  intro d
  induction d with
  | zero =>
    intro l N hl
    refine ⟨-1, ?_, ?_, Or.inl rfl⟩
    · show Machine_nextToMake_14 _ l c = _
      unfold Machine_nextToMake_14
      rw [hc3, w32_id (z := m 49 44) (by omega) (by omega), w_nat (by omega), if_pos (by omega)]
    · show M_toMake_2 _ l m = _
      unfold M_toMake_2
      rw [w32_id (z := m 49 44) (by omega) (by omega), w_nat (by omega), if_pos (by omega)]
  | succ d ih =>
    intro l N hl
    obtain ⟨z, i1, i2, i3⟩ := ih (l + 1) N (by omega)
    have wl : w32 (l : Int) = l := w_nat (by omega)
    obtain ⟨g1, g2⟩ := h39 (by omega) l (by omega)
    have hin : inn (c 41) l ↔ inn (m 67) l := by
      unfold inn
      rw [h41 0 (by decide), h41 1 (by decide), h41 2 (by decide), h41 3 (by decide)]
    obtain ⟨j1, j2⟩ := isIn (s := c) (l := l) wl (fun i hi => by rw [h41 i hi]; exact hw i hi)
    have hC : Machine_nextToMake_14L (N + (d + 1) + 1) l c = if m 73 l = 0 ∧ ¬ inn (m 67) l then some ((l : Int), c) else Machine_nextToMake_14L (N + d + 1) ((l + 1 : Nat) : Int) c := by
      show Machine_nextToMake_14 (Machine_nextToMake_14L (N + d + 1)) l c = _
      unfold Machine_nextToMake_14 Machine_nextToMake_46 Order_isLeft
      rw [hc3, w32_id (z := m 49 44) (by omega) (by omega), wl, if_neg (by omega), if_neg (by omega), if_neg (by omega), if_pos (show (0 : Int) ≤ l ∧ (l : Int) < 32 by omega), Int.toNat_natCast, g1, w32_01 g2]
      by_cases e : m 73 l = 0
      · rw [if_pos e, g_bi_s, if_neg (by decide)]
        by_cases e2 : inn (m 67) l
        · rw [j1 (hin.mpr e2), g_bi_s, if_neg (by decide), if_neg (by simp [e2])]
          rfl
        · rw [j2 (fun q => e2 (hin.mp q)), g_bi_s, if_pos (by decide), if_pos ⟨e, e2⟩]
      · rw [if_neg e, g_bi_s, if_pos (by decide), if_neg (fun q => e q.1)]
        rfl
    have hM : M_toMake_2L (N + (d + 1) + 1) l m = if m 73 l = 0 ∧ ¬ inn (m 67) l then some ((l : Int), m) else M_toMake_2L (N + d + 1) ((l + 1 : Nat) : Int) m := by
      show M_toMake_2 (M_toMake_2L (N + d + 1)) l m = _
      unfold M_toMake_2
      rw [w32_id (z := m 49 44) (by omega) (by omega), wl, if_neg (by omega), if_pos (show (0 : Int) ≤ l ∧ (l : Int) < 40 by omega), Int.toNat_natCast, w32_01 g2]
      by_cases e : m 73 l = 0
      · rw [if_pos e]
        obtain ⟨k1, k2⟩ := tm_in (k := M_toMake_2L (N + d + 1)) (l := l) (b := 1) (s := m) (Or.inr rfl) wl hw
        by_cases e2 : inn (m 67) l
        · rw [k2 (fun q => q.2 e2), if_neg (fun q => q.2 e2)]
          rfl
        · rw [k1 ⟨rfl, e2⟩, if_pos ⟨e, e2⟩]
      · rw [if_neg e, (tm_in (k := M_toMake_2L (N + d + 1)) (l := l) (b := 0) (s := m) (Or.inl rfl) wl hw).2 (fun q => by omega), if_neg (fun q => e q.1)]
        rfl
    by_cases e : m 73 l = 0 ∧ ¬ inn (m 67) l
    · rw [hC, hM, if_pos e, if_pos e]
      exact ⟨_, rfl, rfl, Or.inr ⟨by omega, by omega, by rw [Int.toNat_natCast]; exact e.1, e.2⟩⟩
    · rw [hC, hM, if_neg e, if_neg e]
      exact ⟨z, i1, i2, i3⟩

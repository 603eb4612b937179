/-! the press: state, press, take, out -/
def ins (f : Nat → Int) : Int := 0 + (if w32 (f 0) = -1 then 0 else 1) + (if w32 (f 1) = -1 then 0 else 1) + (if w32 (f 2) = -1 then 0 else 1) + (if w32 (f 3) = -1 then 0 else 1)
theorem ins_lo (f : Nat → Int) : 0 ≤ ins f ∧ ins f ≤ 4 := by unfold ins; repeat' split <;> omega
theorem ins_w (f : Nat → Int) : w32 (ins f) = ins f := w32_id (by have := ins_lo f; omega) (by have := ins_lo f; omega)
theorem ins_congr {f g : Nat → Int} (h : ∀ i, i < 4 → f i = g i) : ins f = ins g := by
  unfold ins
  rw [h 0 (by decide), h 1 (by decide), h 2 (by decide), h 3 (by decide)]
theorem w_nat {j : Nat} (h : j < 2147483648) : w32 (j : Int) = j := w32_id (by omega) (by omega)
theorem insC_step {k : Int → Int → gS → gA} {l : Int} {j : Nat} {s : gS} (hj : j < 4) : Machine_inside_4 k l j s = k (l + if w32 (s 41 j) = -1 then 0 else 1) ((j + 1 : Nat) : Int) s := by
  unfold Machine_inside_4 Machine_inside_25
  rw [w_nat (by omega), if_neg (by omega), if_pos (by omega)]
  simp only [g_le_s, Int.toNat_natCast]
  split <;> simp
theorem insC_end {k : Int → Int → gS → gA} {l : Int} {s : gS} : Machine_inside_4 k l ((4 : Nat) : Int) s = some (l, s) := by
  unfold Machine_inside_4
  rw [if_pos (by decide)]
theorem insC (s : gS) : Machine_inside s = some (ins (s 41), s) := by
  show Machine_inside_4 (Machine_inside_4 (Machine_inside_4 (Machine_inside_4 (Machine_inside_4 (Machine_inside_4L 999999999995))))) 0 ((0 : Nat) : Int) s = _
  rw [insC_step (by decide), insC_step (by decide), insC_step (by decide), insC_step (by decide), insC_end]
  rfl
theorem insM_step {k : Int → Int → gS → gA} {l : Int} {j : Nat} {s : gS} (hj : j < 4) : M_insideMany_4 k l j s = k (l + if w32 (s 67 j) = -1 then 0 else 1) ((j + 1 : Nat) : Int) s := by
  unfold M_insideMany_4 M_insideMany_25
  rw [w_nat (by omega), if_neg (by omega), if_pos (by omega)]
  simp only [g_le_s, Int.toNat_natCast]
  split <;> simp
theorem insM_end {k : Int → Int → gS → gA} {l : Int} {s : gS} : M_insideMany_4 k l ((4 : Nat) : Int) s = some (l, s) := by
  unfold M_insideMany_4
  rw [if_pos (by decide)]
theorem insM (s : gS) : M_insideMany s = some (ins (s 67), s) := by
  show M_insideMany_4 (M_insideMany_4 (M_insideMany_4 (M_insideMany_4 (M_insideMany_4 (M_insideMany_4L 999999999995))))) 0 ((0 : Nat) : Int) s = _
  rw [insM_step (by decide), insM_step (by decide), insM_step (by decide), insM_step (by decide), insM_end]
  rfl
theorem RP_ins {n : Int} {c m : gS} (h : RP n c m) : ins (c 41) = ins (m 67) := ins_congr fun i hi => (h.2.1 i hi).1
theorem op_state {n : Int} {c m : gS} (h : RP n c m) : ∃ z, Machine_state c = some (z, c) ∧ M_stateOf m = some (z, m) := by
  obtain ⟨hE, hS, hG, hO, hI, hK, hQ⟩ := id h
  obtain ⟨o1, o2, o3, o4⟩ := hO
  unfold Machine_state M_stateOf Machine_state_46 M_stateOf_49 Order_left
  simp only [g_bi_s, insC, insM, hE.1, hE.2.1, hE.2.2.1, hE.2.2.2.2.2.1, hE.2.2.2.2.2.2.1, hE.2.2.2.2.2.2.2.1, RP_ins h]
  rw [w32_id (z := m 49 44 - m 49 45) (by omega) (by omega), w32_id (z := m 49 45) (by omega) (by omega), w32_id (z := m 49 44) (by omega) (by omega)]
  by_cases h1 : w32 (m 49 46) = 0
  · rw [if_pos h1, if_pos h1]
    by_cases h2 : w32 (m 49 47) = 0
    · rw [if_pos h2, if_pos h2]
      by_cases h3 : m 49 45 < m 49 44
      · rw [if_neg (by omega), if_pos h3]
        by_cases h4 : w32 (ins (m 67)) = 0
        · rw [if_pos h4, if_pos h4]
          by_cases h5 : w32 (m 49 40) = 0
          · rw [if_pos h5, if_pos h5]; exact ⟨_, rfl, rfl⟩
          · rw [if_neg h5, if_neg h5]
            by_cases h6 : 80 ≤ w32 (m 49 41)
            · rw [if_pos h6, if_pos h6]; exact ⟨_, rfl, rfl⟩
            · rw [if_neg h6, if_neg h6]; exact ⟨_, rfl, rfl⟩
        · rw [if_neg h4, if_neg h4]
          by_cases h6 : 80 ≤ w32 (m 49 41)
          · rw [if_pos h6, if_pos h6]; exact ⟨_, rfl, rfl⟩
          · rw [if_neg h6, if_neg h6]; exact ⟨_, rfl, rfl⟩
      · rw [if_pos (by omega), if_neg h3]; exact ⟨_, rfl, rfl⟩
    · rw [if_neg h2, if_neg h2]; exact ⟨_, rfl, rfl⟩
  · rw [if_neg h1, if_neg h1]; exact ⟨_, rfl, rfl⟩
theorem op_press {n : Int} {c m : gS} {a : Int} (ha : w32 a = a) (h : RP n c m) : oP n (B_press a) (M_press a) c m := by
  obtain ⟨hE, hS, hG, hO, hI, hK, hQ⟩ := id h
  have key : ∃ z, B_press a c = some (z, c) ∧ M_press a m = some (z, g_up m 49 0 0) := by
    obtain ⟨z, k1, k2⟩ := op_state (RP_code (v := 0) h)
    unfold B_press M_press
    simp (disch := decide) only [g_le_s, ha, up_n, k1, k2, g_bi_s, hE.1, hE.2.1, hE.2.2.2.1, hE.2.2.2.2.1, hE.2.2.2.2.2.2.1, hE.2.2.2.2.2.2.2.1]
    by_cases h0 : a = 0
    · rw [if_pos h0, if_pos h0]; exact ⟨_, rfl, rfl⟩
    rw [if_neg h0, if_neg h0]
    by_cases h0 : a = 1
    · rw [if_pos h0, if_pos h0]; exact ⟨_, rfl, rfl⟩
    rw [if_neg h0, if_neg h0]
    by_cases h0 : a = 2
    · rw [if_pos h0, if_pos h0]; exact ⟨_, rfl, rfl⟩
    rw [if_neg h0, if_neg h0]
    by_cases h0 : a = 3
    · rw [if_pos h0, if_pos h0]; exact ⟨_, rfl, rfl⟩
    rw [if_neg h0, if_neg h0]
    by_cases h0 : a = 4
    · rw [if_pos h0, if_pos h0]
      rcases hQ.1.1 with q | q
      · rw [q, if_pos (by decide)]; exact ⟨_, rfl, rfl⟩
      · rw [q]
        split
        · exact ⟨_, rfl, rfl⟩
        · exact ⟨_, rfl, rfl⟩
    rw [if_neg h0, if_neg h0]
    by_cases h0 : a = 5
    · rw [if_pos h0, if_pos h0]; exact ⟨_, rfl, rfl⟩
    rw [if_neg h0, if_neg h0]
    by_cases h0 : a = 6
    · rw [if_pos h0, if_pos h0]; exact ⟨_, rfl, rfl⟩
    rw [if_neg h0, if_neg h0]
    exact ⟨_, rfl, rfl⟩
  obtain ⟨z, k1, k2⟩ := key
  exact ⟨z, c, _, k1, k2, RP_code h, fC_rf _ _, fM_code⟩

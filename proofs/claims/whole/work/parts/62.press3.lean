/-! the press: take, out -/
theorem op_take {n : Int} {c m : gS} {a : Int} (ha : w32 a = a) (h : RP n c m) : oP n (B_take a) (M_take a) c m := by
  obtain ⟨hE, hS, hG, hO, hI, hK, hQ⟩ := id h
  unfold oP B_take M_take Machine_isSection M_isSection
  simp (disch := decide) only [g_le_s, ha]
  by_cases h1 : a < 0
  · rw [if_pos h1, if_pos h1]
    exact ⟨_, _, _, rfl, rfl, RP_code h, fC_rf _ _, fM_code⟩
  by_cases h2 : 4 ≤ a
  · rw [if_neg h1, if_neg h1, if_pos h2, if_pos h2]
    exact ⟨_, _, _, rfl, rfl, RP_code h, fC_rf _ _, fM_code⟩
  obtain ⟨h3, h4⟩ := sec_in h1 h2
  obtain ⟨s1, s2, s3, s4⟩ := hS _ h3
  rw [if_neg h1, if_neg h1, if_neg h2, if_neg h2]
  unfold Machine_remove Machine_remove_26 Machine_empty M_take_38 M_empty
  simp (disch := decide) only [g_bi_s, g_le_s, ha, show ¬ (w32 1 = 0) by decide, show w32 0 = 0 by decide, if_false, if_true, if_pos h4, g_up_ne, up_n, s1, hE.2.2.1, hE.2.2.2.2.2.1]
  by_cases h5 : w32 (m 67 a.toNat) = -1
  · rw [if_pos h5, if_pos h5]
    simp only [g_bi_s, show w32 0 = 0 by decide, if_true]
    exact ⟨_, _, _, rfl, rfl, RP_code h, fC_rf _ _, fM_code⟩
  rw [if_neg h5, if_neg h5]
  have hRP : RP n (g_up (g_up c 41 a.toNat (-1)) 42 a.toNat 0) (g_up (g_up (g_up (g_up m 49 0 0) 67 a.toNat (-1)) 68 a.toNat 0) 69 a.toNat 0) := by
    unfold RP pE pS pG pO pI pK pQ sdsM at *
    simp (disch := decide) only [up_n, up_y, g_up_ne]
    refine ⟨hE, fun i hi => ?_, hG, hO, ⟨fun i hi => ?_, fun i j hi hj hij hne => ?_⟩, fun i hi => ?_, hQ⟩
    · obtain ⟨t1, t2, t3, t4⟩ := hS i hi
      by_cases e : i = a.toNat
      · subst e
        simp (disch := omega) only [up_y, up_n, g_up_ne]
        exact ⟨trivial, trivial, t3, t4⟩
      · simp (disch := omega) only [up_n, g_up_ne]
        exact ⟨t1, t2, t3, t4⟩
    · obtain ⟨t1, t2, t3, t4⟩ := hI.1 i hi
      by_cases e : i = a.toNat
      · subst e
        simp (disch := omega) only [up_y, up_n, g_up_ne]
        exact ⟨Or.inl trivial, by omega, by omega, fun q => absurd rfl q⟩
      · simp (disch := omega) only [up_n, g_up_ne]
        exact ⟨t1, t2, t3, t4⟩
    · have hi2 : i ≠ a.toNat := by
        rintro rfl
        simp (disch := omega) only [up_y, up_n, g_up_ne] at hne
        exact hne rfl
      simp (disch := omega) only [up_n, g_up_ne] at hne
      by_cases e : j = a.toNat
      · subst e
        simp (disch := omega) only [up_y, up_n, g_up_ne]
        exact hne
      · simp (disch := omega) only [up_n, g_up_ne]
        exact hI.2 i j hi hj hij hne
    · obtain ⟨t1, t2, t3, t4, t5⟩ := hK i hi
      by_cases e : i = a.toNat
      · subst e
        simp (disch := omega) only [up_y, up_n, g_up_ne]
        exact ⟨Or.inr (Or.inl trivial), by omega, by omega, t4, t5⟩
      · simp (disch := omega) only [up_n, g_up_ne]
        exact ⟨t1, t2, t3, t4, t5⟩
  have hfC : fC pcC c (g_up (g_up c 41 a.toNat (-1)) 42 a.toNat 0) := fC_tr (fC_up rfl) (fC_up rfl)
  have hfM : fM pcM m (g_up (g_up (g_up (g_up m 49 0 0) 67 a.toNat (-1)) 68 a.toNat 0) 69 a.toNat 0) := fM_tr (fM_tr (fM_tr fM_code (fM_up (by simp [pcM]))) (fM_up (by simp [pcM]))) (fM_up (by simp [pcM]))
  by_cases h6 : w32 (m 49 46) = 0
  · rw [if_pos h6, if_pos h6]
    by_cases h7 : w32 (m 49 47) = 0
    · rw [if_pos h7, if_pos h7]
      simp only [g_bi_s, show w32 0 = 0 by decide, if_true]
      exact ⟨_, _, _, rfl, rfl, RP_code h, fC_rf _ _, fM_code⟩
    · rw [if_neg h7, if_neg h7]
      simp only [g_bi_s, show ¬ (w32 1 = 0) by decide, if_false]
      exact ⟨_, _, _, rfl, rfl, hRP, hfC, hfM⟩
  · rw [if_neg h6, if_neg h6]
    simp only [g_bi_s, show ¬ (w32 1 = 0) by decide, if_false]
    exact ⟨_, _, _, rfl, rfl, hRP, hfC, hfM⟩
theorem i_div_nn {x y : Int} (hx : 0 ≤ x) (hx2 : x < 2147483648) (hy : 0 < y) (hy2 : y < 2147483648) : i_div x y = x / y := by
  unfold i_div
  rw [Int32.toInt_div, w32_toInt, w32_toInt, w32_id (by omega) hx2, w32_id (by omega) hy2, Int.tdiv_eq_ediv_of_nonneg hx]
  have h1 : 0 ≤ x / y := Int.ediv_nonneg hx (by omega)
  have h2 : x / y ≤ x := Int.ediv_le_self _ hx
  generalize x / y = q at h1 h2 ⊢
  simp only [Int.bmod]
  split <;> omega
theorem i_rem_nn {x y : Int} (hx : 0 ≤ x) (hx2 : x < 2147483648) (hy : 0 < y) (hy2 : y < 2147483648) : i_rem x y = x % y := by
  have h : Int32.ofInt x / Int32.ofInt y = Int32.ofInt (x / y) := by
    rw [← i_div_nn hx hx2 hy hy2]
    exact (Int32.ofInt_toInt _).symm
  unfold i_rem
  rw [h, ← Int32.ofInt_mul, ← Int32.ofInt_sub, w32_toInt]
  have e : x - x / y * y = x % y := by rw [Int.emod_def, Int.mul_comm]
  rw [e]
  have h1 := Int.emod_nonneg x (show y ≠ 0 by omega)
  have h2 := Int.emod_lt_of_pos x hy
  exact w32_id (by omega) (by omega)
theorem ord_1 {c : gS} {v pp : Int} (e : c 37 7 = pp) (h1 : 0 < pp) (h2 : pp ≤ 8) (h3 : 0 ≤ v) (h4 : v < 32) : Order_copyOf v c = some (v / pp, c) := by
  unfold Order_copyOf
  rw [e, w32_id (by omega) (by omega), if_neg (by omega), if_pos (by omega), i_div_nn h3 (by omega) h1 (by omega)]
theorem ord_2 {c : gS} {v pp sd : Int} (e : c 37 7 = pp) (h1 : 0 < pp) (h2 : pp ≤ 8) (h3 : 0 ≤ v) (h4 : v < 32) (e2 : c 37 5 = sd) (h5 : sd = 0 ∨ sd = 1) : Order_firstPage v c = some (v % pp * (if sd = 0 then 1 else 2), c) := by
  unfold Order_firstPage Order_sides
  rw [e, w32_id (by omega) (by omega), if_neg (by omega), if_pos (by omega), i_rem_nn h3 (by omega) h1 (by omega), e2, w32_01 h5]
  split <;> rfl
theorem ord_3 {c : gS} {v pp sd pg : Int} (e : c 37 7 = pp) (h1 : 0 < pp) (h2 : pp ≤ 8) (h3 : 0 ≤ v) (h4 : v < 32) (e2 : c 37 5 = sd) (h5 : sd = 0 ∨ sd = 1) (e3 : c 37 6 = pg) : Order_secondPage v c = some (if sd = 0 then -1 else if w32 pg ≤ w32 (v % pp * (if sd = 0 then 1 else 2) + 1) then -1 else v % pp * (if sd = 0 then 1 else 2) + 1, c) := by
  unfold Order_secondPage
  rw [ord_2 e h1 h2 h3 h4 e2 h5]
  simp only [g_bi_s, g_le_s]
  rw [e2, w32_01 h5, e3]
  by_cases h : sd = 0
  · rw [if_pos h, if_pos h]
  · simp only [if_neg h]
    split <;> rfl
theorem op_out {n : Int} {c m : gS} {a b : Int} (ha : w32 a = a) (hb : w32 b = b) (h : RP n c m) : oP n (B_out a b) (M_out1 a b) c m := by
  obtain ⟨hE, hS, hG, hO, hI, hK, hQ⟩ := id h
  obtain ⟨o1, o2, o3, o4, o5, o6⟩ := hO
  have key : ∃ z, B_out a b c = some (z, c) ∧ M_out1 a b m = some (z, g_up m 49 0 0) := by
    unfold M_out1
    rw [g_le_s (x := g_up m 49 0 0)]
    simp (disch := decide) only [up_n, g_up_ne]
    unfold B_out
    rw [ha, hb, hE.2.2.2.2.2.2.1, w32_id (z := m 49 45) (by omega) (by omega)]
    by_cases h1 : a < 0
    · rw [if_pos h1, if_pos h1]; exact ⟨_, rfl, rfl⟩
    rw [if_neg h1, if_neg h1]
    by_cases h2 : m 49 45 ≤ a
    · rw [if_neg (by omega), if_pos h2]; exact ⟨_, rfl, rfl⟩
    rw [if_pos (by omega), if_neg h2, if_pos (show 0 ≤ a ∧ a < 32 by omega)]
    obtain ⟨p1, p2, p3⟩ := o6 a.toNat (by omega)
    obtain ⟨q1, q2, q3, q4, q5, q6, q7, q8⟩ := hQ.2 (by omega)
    rw [g_le_s, g_le_s, p1]
    generalize m 70 a.toNat = v at p2 p3 ⊢
    have hpp : 0 < c 37 7 ∧ c 37 7 ≤ 8 := by
      constructor
      · rcases Int.lt_trichotomy (c 37 7) 0 with hn | hn | hn
        · split at q7 <;> omega
        · rw [hn] at q8; omega
        · exact hn
      · split at q7 <;> omega
    have hsd := hG.2.2.2.2.2.2.2
    rw [ord_1 rfl hpp.1 hpp.2 p2 (by omega), ord_2 rfl hpp.1 hpp.2 p2 (by omega) hE.2.2.2.2.2.2.2.2 hsd, ord_3 rfl hpp.1 hpp.2 p2 (by omega) hE.2.2.2.2.2.2.2.2 hsd q4]
    by_cases b0 : b < 0
    · rw [if_neg (show ¬ b = 0 by omega), if_neg (show ¬ b = 1 by omega), if_neg (show ¬ b = 2 by omega), if_neg (show ¬ b = 3 by omega), if_pos b0]; exact ⟨_, rfl, rfl⟩
    rw [if_neg b0]
    by_cases b3 : b ≤ 3
    · rw [if_pos b3, if_pos (show 0 ≤ a ∧ a < 40 by omega)]
      have hdv : i_div (m 49 44) (m 49 11) = c 37 7 := by
        rw [i_div_nn (by omega) (by omega) (by omega) (by omega), q8]
        exact Int.mul_ediv_cancel_left _ (by omega)
      rw [w32_id (z := m 49 11) (by omega) (by omega), if_pos (show ¬ m 49 11 = 0 by omega), g_le_s, hdv, w32_01 hsd, w32_id (z := c 37 7) (by omega) (by omega), if_pos (show ¬ c 37 7 = 0 by omega), i_rem_nn p2 (by omega) hpp.1 (by omega)]
      have hp0 : ¬ c 37 7 = 0 := by omega
      unfold M_out1_66
      simp (disch := decide) only [up_n, g_bi_s]
      rw [hb, i_div_nn p2 (by omega) hpp.1 (by omega), w32_id (z := c 37 7) (by omega) (by omega), if_pos (show ¬ c 37 7 = 0 by omega), w32_01 hsd]
      rcases (show b = 0 ∨ b = 1 ∨ b = 2 ∨ b = 3 by omega) with rfl | rfl | rfl | rfl
      · by_cases e : m 49 12 = 0
        · simp [e, hp0]
        · simp [e, hp0]
      · by_cases e : m 49 12 = 0
        · simp [e, hp0]
        · simp [e, hp0]
      · by_cases e : m 49 12 = 0
        · simp [e, hp0]
        · simp [e, hp0]
      · by_cases e : m 49 12 = 0
        · simp [e, hp0]
        · simp only [e, hp0, if_false]
          by_cases e2 : w32 (m 49 8) ≤ w32 (v % c 37 7 * 2 + 1)
          · simp [e2, hp0]
          · simp [e2, hp0]
    · rw [if_neg (show ¬ b = 0 by omega), if_neg (show ¬ b = 1 by omega), if_neg (show ¬ b = 2 by omega), if_neg (show ¬ b = 3 by omega), if_neg b3]; exact ⟨_, rfl, rfl⟩
  obtain ⟨z, k1, k2⟩ := key
  exact ⟨z, c, _, k1, k2, RP_code h, fC_rf _ _, fM_code⟩

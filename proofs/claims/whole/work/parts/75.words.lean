/-! signs and words -/
theorem i_2cb : ∀ v : Fin 95, i_2c (32 + (v : Nat)) = 32 + (v : Nat) ∧ i_2b (32 + (v : Nat)) = 32 + (v : Nat) := by decide +kernel
theorem i_2cv {v : Int} (h0 : 32 ≤ v) (h1 : v ≤ 126) : i_2c v = v := by
  have h := (i_2cb ⟨(v - 32).toNat, by omega⟩).1
  rwa [show (32 : Int) + (((v - 32).toNat : Nat) : Int) = v by omega] at h
theorem i_2bv {v : Int} (h0 : 32 ≤ v) (h1 : v ≤ 126) : i_2b v = v := by
  have h := (i_2cb ⟨(v - 32).toNat, by omega⟩).2
  rwa [show (32 : Int) + (((v - 32).toNat : Nat) : Int) = v by omega] at h
def dg (v : Int) : Int := if 48 ≤ v ∧ v ≤ 57 then 1 else 0
def lt (v : Int) : Int := if 97 ≤ v ∧ v ≤ 122 then 1 else 0
theorem dgC {v : Int} (s : gS) (hv : w32 v = v) : B_isDigit v s = some (dg v, s) := by
  unfold B_isDigit dg
  rw [hv]
  by_cases h1 : v < 48
  · rw [if_pos h1, if_neg (by omega)]
  · rw [if_neg h1]
    by_cases h2 : 57 < v
    · rw [if_pos h2, if_neg (by omega)]
    · rw [if_neg h2, if_pos (by omega)]
theorem dgM {v : Int} (s : gS) (hv : w32 v = v) : M_isDigit v s = some (dg v, s) := dgC s hv
theorem ltC {v : Int} (s : gS) (hv : w32 v = v) : B_isLetter v s = some (lt v, s) := by
  unfold B_isLetter lt
  rw [hv]
  by_cases h1 : v < 97
  · rw [if_pos h1, if_neg (by omega)]
  · rw [if_neg h1]
    by_cases h2 : 122 < v
    · rw [if_pos h2, if_neg (by omega)]
    · rw [if_neg h2, if_pos (by omega)]
theorem ltM {v : Int} (s : gS) (hv : w32 v = v) : M_isLetter v s = some (lt v, s) := ltC s hv
theorem dg_01 (v : Int) : dg v = 0 ∨ dg v = 1 := by unfold dg; split <;> simp
theorem lt_01 (v : Int) : lt v = 0 ∨ lt v = 1 := by unfold lt; split <;> simp
theorem w_v {v : Int} (h0 : 32 ≤ v) (h1 : v ≤ 126) : w32 v = v := w32_id (by omega) (by omega)
theorem ixa_step {k : Int → Int → Int → gS → gA} {v : Int} {j : Nat} {s : gS} (hj : j < 3) (hv : w32 v = v) : StringLatin1_indexOfChar_7 k 3 v j s = if w32 (g_by 0 j) = v then some ((j : Int), s) else k 3 v ((j + 1 : Nat) : Int) s := by
  unfold StringLatin1_indexOfChar_7
  rw [w_nat (by omega), show w32 3 = 3 by decide, if_neg (by omega), if_pos (by omega), Int.toNat_natCast, hv]
  rfl
theorem ixa_end {k : Int → Int → Int → gS → gA} {v : Int} {s : gS} : StringLatin1_indexOfChar_7 k 3 v ((3 : Nat) : Int) s = some (-1, s) := by
  unfold StringLatin1_indexOfChar_7
  rw [if_pos (by decide)]
abbrev in_a (v : Int) : Prop := v = 63 ∨ v = 82 ∨ v = 81
theorem one_a {v : Int} (s : gS) (h0 : 32 ≤ v) (h1 : v ≤ 126) : B_isOneOf v s = some (if in_a v then 1 else 0, s) := by
  have hv := w_v h0 h1
  have key : ∃ z : Int, StringLatin1_indexOfChar v 0 3 s = some (z, s) ∧ w32 z = z ∧ (in_a v → 0 ≤ z) ∧ (¬ in_a v → z < 0) := by
    unfold StringLatin1_indexOfChar
    rw [g_le_s, i_2bv h0 h1]
    show ∃ z : Int, StringLatin1_indexOfChar_7 (StringLatin1_indexOfChar_7 (StringLatin1_indexOfChar_7 (StringLatin1_indexOfChar_7 (StringLatin1_indexOfChar_7L 999999999996)))) 3 v ((0 : Nat) : Int) s = some (z, s) ∧ _
    rw [ixa_step (by decide) hv, ixa_step (by decide) hv, ixa_step (by decide) hv, ixa_end, show w32 (g_by 0 0) = 63 by decide, show w32 (g_by 0 1) = 82 by decide, show w32 (g_by 0 2) = 81 by decide]
    clear hv h0 h1
    by_cases e0 : (63 : Int) = v
    · rw [if_pos e0]
      exact ⟨0, rfl, by decide, fun _ => by decide, fun h => absurd h (by rw [← e0]; decide)⟩
    rw [if_neg e0]
    by_cases e1 : (82 : Int) = v
    · rw [if_pos e1]
      exact ⟨1, rfl, by decide, fun _ => by decide, fun h => absurd h (by rw [← e1]; decide)⟩
    rw [if_neg e1]
    by_cases e2 : (81 : Int) = v
    · rw [if_pos e2]
      exact ⟨2, rfl, by decide, fun _ => by decide, fun h => absurd h (by rw [← e2]; decide)⟩
    rw [if_neg e2]
    exact ⟨-1, rfl, by decide, fun h => by omega, fun _ => by decide⟩
  obtain ⟨z, k1, k2, k3, k4⟩ := key
  unfold B_isOneOf String_indexOf String_indexOf1 String_length StringLatin1_indexOf StringLatin1_canEncode Math_max Math_min1
  rw [i_2cv h0 h1, hv, g_bi_s, show i_shr 3 0 = 3 by decide, if_neg (show ¬ v < 0 by omega), if_neg (show ¬ 255 < v by omega), g_bi_s, if_neg (show ¬ w32 1 = 0 by decide), if_neg (show ¬ w32 0 < w32 0 by decide), g_bi_s, if_neg (show ¬ w32 3 < w32 3 by decide), g_bi_s, if_pos (show w32 0 < w32 3 by decide), k1]
  simp only [g_bi_s, k2]
  by_cases e : in_a v
  · rw [if_pos e, if_neg (by have := k3 e; omega)]
  · rw [if_neg e, if_pos (k4 e)]
theorem ixb_step {k : Int → Int → Int → gS → gA} {v : Int} {j : Nat} {s : gS} (hj : j < 5) (hv : w32 v = v) : StringLatin1_indexOfChar_b_7 k 5 v j s = if w32 (g_by 1 j) = v then some ((j : Int), s) else k 5 v ((j + 1 : Nat) : Int) s := by
  unfold StringLatin1_indexOfChar_b_7
  rw [w_nat (by omega), show w32 5 = 5 by decide, if_neg (by omega), if_pos (by omega), Int.toNat_natCast, hv]
  rfl
theorem ixb_end {k : Int → Int → Int → gS → gA} {v : Int} {s : gS} : StringLatin1_indexOfChar_b_7 k 5 v ((5 : Nat) : Int) s = some (-1, s) := by
  unfold StringLatin1_indexOfChar_b_7
  rw [if_pos (by decide)]
abbrev in_b (v : Int) : Prop := v = 77 ∨ v = 76 ∨ v = 67 ∨ v = 90 ∨ v = 78
theorem one_b {v : Int} (s : gS) (h0 : 32 ≤ v) (h1 : v ≤ 126) : B_isOneOf_b v s = some (if in_b v then 1 else 0, s) := by
  have hv := w_v h0 h1
  have key : ∃ z : Int, StringLatin1_indexOfChar_b v 0 5 s = some (z, s) ∧ w32 z = z ∧ (in_b v → 0 ≤ z) ∧ (¬ in_b v → z < 0) := by
    unfold StringLatin1_indexOfChar_b
    rw [g_le_s, i_2bv h0 h1]
    show ∃ z : Int, StringLatin1_indexOfChar_b_7 (StringLatin1_indexOfChar_b_7 (StringLatin1_indexOfChar_b_7 (StringLatin1_indexOfChar_b_7 (StringLatin1_indexOfChar_b_7 (StringLatin1_indexOfChar_b_7 (StringLatin1_indexOfChar_b_7L 999999999994)))))) 5 v ((0 : Nat) : Int) s = some (z, s) ∧ _
    rw [ixb_step (by decide) hv, ixb_step (by decide) hv, ixb_step (by decide) hv, ixb_step (by decide) hv, ixb_step (by decide) hv, ixb_end, show w32 (g_by 1 0) = 77 by decide, show w32 (g_by 1 1) = 76 by decide, show w32 (g_by 1 2) = 67 by decide, show w32 (g_by 1 3) = 90 by decide, show w32 (g_by 1 4) = 78 by decide]
    clear hv h0 h1
    by_cases e0 : (77 : Int) = v
    · rw [if_pos e0]
      exact ⟨0, rfl, by decide, fun _ => by decide, fun h => absurd h (by rw [← e0]; decide)⟩
    rw [if_neg e0]
    by_cases e1 : (76 : Int) = v
    · rw [if_pos e1]
      exact ⟨1, rfl, by decide, fun _ => by decide, fun h => absurd h (by rw [← e1]; decide)⟩
    rw [if_neg e1]
    by_cases e2 : (67 : Int) = v
    · rw [if_pos e2]
      exact ⟨2, rfl, by decide, fun _ => by decide, fun h => absurd h (by rw [← e2]; decide)⟩
    rw [if_neg e2]
    by_cases e3 : (90 : Int) = v
    · rw [if_pos e3]
      exact ⟨3, rfl, by decide, fun _ => by decide, fun h => absurd h (by rw [← e3]; decide)⟩
    rw [if_neg e3]
    by_cases e4 : (78 : Int) = v
    · rw [if_pos e4]
      exact ⟨4, rfl, by decide, fun _ => by decide, fun h => absurd h (by rw [← e4]; decide)⟩
    rw [if_neg e4]
    exact ⟨-1, rfl, by decide, fun h => by omega, fun _ => by decide⟩
  obtain ⟨z, k1, k2, k3, k4⟩ := key
  unfold B_isOneOf_b String_indexOf_b String_indexOf1_b String_length_b StringLatin1_indexOf_b StringLatin1_canEncode Math_max Math_min1
  rw [i_2cv h0 h1, hv, g_bi_s, show i_shr 5 0 = 5 by decide, if_neg (show ¬ v < 0 by omega), if_neg (show ¬ 255 < v by omega), g_bi_s, if_neg (show ¬ w32 1 = 0 by decide), if_neg (show ¬ w32 0 < w32 0 by decide), g_bi_s, if_neg (show ¬ w32 5 < w32 5 by decide), g_bi_s, if_pos (show w32 0 < w32 5 by decide), k1]
  simp only [g_bi_s, k2]
  by_cases e : in_b v
  · rw [if_pos e, if_neg (by have := k3 e; omega)]
  · rw [if_neg e, if_pos (k4 e)]
theorem ixc_step {k : Int → Int → Int → gS → gA} {v : Int} {j : Nat} {s : gS} (hj : j < 9) (hv : w32 v = v) : StringLatin1_indexOfChar_c_7 k 9 v j s = if w32 (g_by 2 j) = v then some ((j : Int), s) else k 9 v ((j + 1 : Nat) : Int) s := by
  unfold StringLatin1_indexOfChar_c_7
  rw [w_nat (by omega), show w32 9 = 9 by decide, if_neg (by omega), if_pos (by omega), Int.toNat_natCast, hv]
  rfl
theorem ixc_end {k : Int → Int → Int → gS → gA} {v : Int} {s : gS} : StringLatin1_indexOfChar_c_7 k 9 v ((9 : Nat) : Int) s = some (-1, s) := by
  unfold StringLatin1_indexOfChar_c_7
  rw [if_pos (by decide)]
abbrev in_c (v : Int) : Prop := v = 70 ∨ v = 69 ∨ v = 87 ∨ v = 84 ∨ v = 83 ∨ v = 71 ∨ v = 85 ∨ v = 86 ∨ v = 80
theorem one_c {v : Int} (s : gS) (h0 : 32 ≤ v) (h1 : v ≤ 126) : B_isOneOf_c v s = some (if in_c v then 1 else 0, s) := by
  have hv := w_v h0 h1
  have key : ∃ z : Int, StringLatin1_indexOfChar_c v 0 9 s = some (z, s) ∧ w32 z = z ∧ (in_c v → 0 ≤ z) ∧ (¬ in_c v → z < 0) := by
    unfold StringLatin1_indexOfChar_c
    rw [g_le_s, i_2bv h0 h1]
    show ∃ z : Int, StringLatin1_indexOfChar_c_7 (StringLatin1_indexOfChar_c_7 (StringLatin1_indexOfChar_c_7 (StringLatin1_indexOfChar_c_7 (StringLatin1_indexOfChar_c_7 (StringLatin1_indexOfChar_c_7 (StringLatin1_indexOfChar_c_7 (StringLatin1_indexOfChar_c_7 (StringLatin1_indexOfChar_c_7 (StringLatin1_indexOfChar_c_7 (StringLatin1_indexOfChar_c_7L 999999999990)))))))))) 9 v ((0 : Nat) : Int) s = some (z, s) ∧ _
    rw [ixc_step (by decide) hv, ixc_step (by decide) hv, ixc_step (by decide) hv, ixc_step (by decide) hv, ixc_step (by decide) hv, ixc_step (by decide) hv, ixc_step (by decide) hv, ixc_step (by decide) hv, ixc_step (by decide) hv, ixc_end, show w32 (g_by 2 0) = 70 by decide, show w32 (g_by 2 1) = 69 by decide, show w32 (g_by 2 2) = 87 by decide, show w32 (g_by 2 3) = 84 by decide, show w32 (g_by 2 4) = 83 by decide, show w32 (g_by 2 5) = 71 by decide, show w32 (g_by 2 6) = 85 by decide, show w32 (g_by 2 7) = 86 by decide, show w32 (g_by 2 8) = 80 by decide]
    clear hv h0 h1
    by_cases e0 : (70 : Int) = v
    · rw [if_pos e0]
      exact ⟨0, rfl, by decide, fun _ => by decide, fun h => absurd h (by rw [← e0]; decide)⟩
    rw [if_neg e0]
    by_cases e1 : (69 : Int) = v
    · rw [if_pos e1]
      exact ⟨1, rfl, by decide, fun _ => by decide, fun h => absurd h (by rw [← e1]; decide)⟩
    rw [if_neg e1]
    by_cases e2 : (87 : Int) = v
    · rw [if_pos e2]
      exact ⟨2, rfl, by decide, fun _ => by decide, fun h => absurd h (by rw [← e2]; decide)⟩
    rw [if_neg e2]
    by_cases e3 : (84 : Int) = v
    · rw [if_pos e3]
      exact ⟨3, rfl, by decide, fun _ => by decide, fun h => absurd h (by rw [← e3]; decide)⟩
    rw [if_neg e3]
    by_cases e4 : (83 : Int) = v
    · rw [if_pos e4]
      exact ⟨4, rfl, by decide, fun _ => by decide, fun h => absurd h (by rw [← e4]; decide)⟩
    rw [if_neg e4]
    by_cases e5 : (71 : Int) = v
    · rw [if_pos e5]
      exact ⟨5, rfl, by decide, fun _ => by decide, fun h => absurd h (by rw [← e5]; decide)⟩
    rw [if_neg e5]
    by_cases e6 : (85 : Int) = v
    · rw [if_pos e6]
      exact ⟨6, rfl, by decide, fun _ => by decide, fun h => absurd h (by rw [← e6]; decide)⟩
    rw [if_neg e6]
    by_cases e7 : (86 : Int) = v
    · rw [if_pos e7]
      exact ⟨7, rfl, by decide, fun _ => by decide, fun h => absurd h (by rw [← e7]; decide)⟩
    rw [if_neg e7]
    by_cases e8 : (80 : Int) = v
    · rw [if_pos e8]
      exact ⟨8, rfl, by decide, fun _ => by decide, fun h => absurd h (by rw [← e8]; decide)⟩
    rw [if_neg e8]
    exact ⟨-1, rfl, by decide, fun h => by omega, fun _ => by decide⟩
  obtain ⟨z, k1, k2, k3, k4⟩ := key
  unfold B_isOneOf_c String_indexOf_c String_indexOf1_c String_length_c StringLatin1_indexOf_c StringLatin1_canEncode Math_max Math_min1
  rw [i_2cv h0 h1, hv, g_bi_s, show i_shr 9 0 = 9 by decide, if_neg (show ¬ v < 0 by omega), if_neg (show ¬ 255 < v by omega), g_bi_s, if_neg (show ¬ w32 1 = 0 by decide), if_neg (show ¬ w32 0 < w32 0 by decide), g_bi_s, if_neg (show ¬ w32 9 < w32 9 by decide), g_bi_s, if_pos (show w32 0 < w32 9 by decide), k1]
  simp only [g_bi_s, k2]
  by_cases e : in_c v
  · rw [if_pos e, if_neg (by have := k3 e; omega)]
  · rw [if_neg e, if_pos (k4 e)]
theorem ixd_step {k : Int → Int → Int → gS → gA} {v : Int} {j : Nat} {s : gS} (hj : j < 15) (hv : w32 v = v) : StringLatin1_indexOfChar_d_7 k 15 v j s = if w32 (g_by 3 j) = v then some ((j : Int), s) else k 15 v ((j + 1 : Nat) : Int) s := by
  unfold StringLatin1_indexOfChar_d_7
  rw [w_nat (by omega), show w32 15 = 15 by decide, if_neg (by omega), if_pos (by omega), Int.toNat_natCast, hv]
  rfl
theorem ixd_end {k : Int → Int → Int → gS → gA} {v : Int} {s : gS} : StringLatin1_indexOfChar_d_7 k 15 v ((15 : Nat) : Int) s = some (-1, s) := by
  unfold StringLatin1_indexOfChar_d_7
  rw [if_pos (by decide)]
abbrev in_d (v : Int) : Prop := v = 32 ∨ v = 123 ∨ v = 125 ∨ v = 58 ∨ v = 43 ∨ v = 45 ∨ v = 42 ∨ v = 47 ∨ v = 37 ∨ v = 126 ∨ v = 60 ∨ v = 61 ∨ v = 68 ∨ v = 88 ∨ v = 79
theorem one_d {v : Int} (s : gS) (h0 : 32 ≤ v) (h1 : v ≤ 126) : B_isOneOf_d v s = some (if in_d v then 1 else 0, s) := by
  have hv := w_v h0 h1
  have key : ∃ z : Int, StringLatin1_indexOfChar_d v 0 15 s = some (z, s) ∧ w32 z = z ∧ (in_d v → 0 ≤ z) ∧ (¬ in_d v → z < 0) := by
    unfold StringLatin1_indexOfChar_d
    rw [g_le_s, i_2bv h0 h1]
    show ∃ z : Int, StringLatin1_indexOfChar_d_7 (StringLatin1_indexOfChar_d_7 (StringLatin1_indexOfChar_d_7 (StringLatin1_indexOfChar_d_7 (StringLatin1_indexOfChar_d_7 (StringLatin1_indexOfChar_d_7 (StringLatin1_indexOfChar_d_7 (StringLatin1_indexOfChar_d_7 (StringLatin1_indexOfChar_d_7 (StringLatin1_indexOfChar_d_7 (StringLatin1_indexOfChar_d_7 (StringLatin1_indexOfChar_d_7 (StringLatin1_indexOfChar_d_7 (StringLatin1_indexOfChar_d_7 (StringLatin1_indexOfChar_d_7 (StringLatin1_indexOfChar_d_7 (StringLatin1_indexOfChar_d_7L 999999999984)))))))))))))))) 15 v ((0 : Nat) : Int) s = some (z, s) ∧ _
    rw [ixd_step (by decide) hv, ixd_step (by decide) hv, ixd_step (by decide) hv, ixd_step (by decide) hv, ixd_step (by decide) hv, ixd_step (by decide) hv, ixd_step (by decide) hv, ixd_step (by decide) hv, ixd_step (by decide) hv, ixd_step (by decide) hv, ixd_step (by decide) hv, ixd_step (by decide) hv, ixd_step (by decide) hv, ixd_step (by decide) hv, ixd_step (by decide) hv, ixd_end, show w32 (g_by 3 0) = 32 by decide, show w32 (g_by 3 1) = 123 by decide, show w32 (g_by 3 2) = 125 by decide, show w32 (g_by 3 3) = 58 by decide, show w32 (g_by 3 4) = 43 by decide, show w32 (g_by 3 5) = 45 by decide, show w32 (g_by 3 6) = 42 by decide, show w32 (g_by 3 7) = 47 by decide, show w32 (g_by 3 8) = 37 by decide, show w32 (g_by 3 9) = 126 by decide, show w32 (g_by 3 10) = 60 by decide, show w32 (g_by 3 11) = 61 by decide, show w32 (g_by 3 12) = 68 by decide, show w32 (g_by 3 13) = 88 by decide, show w32 (g_by 3 14) = 79 by decide]
    clear hv h0 h1
    by_cases e0 : (32 : Int) = v
    · rw [if_pos e0]
      exact ⟨0, rfl, by decide, fun _ => by decide, fun h => absurd h (by rw [← e0]; decide)⟩
    rw [if_neg e0]
    by_cases e1 : (123 : Int) = v
    · rw [if_pos e1]
      exact ⟨1, rfl, by decide, fun _ => by decide, fun h => absurd h (by rw [← e1]; decide)⟩
    rw [if_neg e1]
    by_cases e2 : (125 : Int) = v
    · rw [if_pos e2]
      exact ⟨2, rfl, by decide, fun _ => by decide, fun h => absurd h (by rw [← e2]; decide)⟩
    rw [if_neg e2]
    by_cases e3 : (58 : Int) = v
    · rw [if_pos e3]
      exact ⟨3, rfl, by decide, fun _ => by decide, fun h => absurd h (by rw [← e3]; decide)⟩
    rw [if_neg e3]
    by_cases e4 : (43 : Int) = v
    · rw [if_pos e4]
      exact ⟨4, rfl, by decide, fun _ => by decide, fun h => absurd h (by rw [← e4]; decide)⟩
    rw [if_neg e4]
    by_cases e5 : (45 : Int) = v
    · rw [if_pos e5]
      exact ⟨5, rfl, by decide, fun _ => by decide, fun h => absurd h (by rw [← e5]; decide)⟩
    rw [if_neg e5]
    by_cases e6 : (42 : Int) = v
    · rw [if_pos e6]
      exact ⟨6, rfl, by decide, fun _ => by decide, fun h => absurd h (by rw [← e6]; decide)⟩
    rw [if_neg e6]
    by_cases e7 : (47 : Int) = v
    · rw [if_pos e7]
      exact ⟨7, rfl, by decide, fun _ => by decide, fun h => absurd h (by rw [← e7]; decide)⟩
    rw [if_neg e7]
    by_cases e8 : (37 : Int) = v
    · rw [if_pos e8]
      exact ⟨8, rfl, by decide, fun _ => by decide, fun h => absurd h (by rw [← e8]; decide)⟩
    rw [if_neg e8]
    by_cases e9 : (126 : Int) = v
    · rw [if_pos e9]
      exact ⟨9, rfl, by decide, fun _ => by decide, fun h => absurd h (by rw [← e9]; decide)⟩
    rw [if_neg e9]
    by_cases e10 : (60 : Int) = v
    · rw [if_pos e10]
      exact ⟨10, rfl, by decide, fun _ => by decide, fun h => absurd h (by rw [← e10]; decide)⟩
    rw [if_neg e10]
    by_cases e11 : (61 : Int) = v
    · rw [if_pos e11]
      exact ⟨11, rfl, by decide, fun _ => by decide, fun h => absurd h (by rw [← e11]; decide)⟩
    rw [if_neg e11]
    by_cases e12 : (68 : Int) = v
    · rw [if_pos e12]
      exact ⟨12, rfl, by decide, fun _ => by decide, fun h => absurd h (by rw [← e12]; decide)⟩
    rw [if_neg e12]
    by_cases e13 : (88 : Int) = v
    · rw [if_pos e13]
      exact ⟨13, rfl, by decide, fun _ => by decide, fun h => absurd h (by rw [← e13]; decide)⟩
    rw [if_neg e13]
    by_cases e14 : (79 : Int) = v
    · rw [if_pos e14]
      exact ⟨14, rfl, by decide, fun _ => by decide, fun h => absurd h (by rw [← e14]; decide)⟩
    rw [if_neg e14]
    exact ⟨-1, rfl, by decide, fun h => by omega, fun _ => by decide⟩
  obtain ⟨z, k1, k2, k3, k4⟩ := key
  unfold B_isOneOf_d String_indexOf_d String_indexOf1_d String_length_d StringLatin1_indexOf_d StringLatin1_canEncode Math_max Math_min1
  rw [i_2cv h0 h1, hv, g_bi_s, show i_shr 15 0 = 15 by decide, if_neg (show ¬ v < 0 by omega), if_neg (show ¬ 255 < v by omega), g_bi_s, if_neg (show ¬ w32 1 = 0 by decide), if_neg (show ¬ w32 0 < w32 0 by decide), g_bi_s, if_neg (show ¬ w32 15 < w32 15 by decide), g_bi_s, if_pos (show w32 0 < w32 15 by decide), k1]
  simp only [g_bi_s, k2]
  by_cases e : in_d v
  · rw [if_pos e, if_neg (by have := k3 e; omega)]
  · rw [if_neg e, if_pos (k4 e)]
/-- how many values a word wants; -1: no word -/
def nd (v : Int) : Int := if v = 37 ∨ v = 42 ∨ v = 43 ∨ v = 45 ∨ v = 47 ∨ v = 60 ∨ v = 61 ∨ v = 76 ∨ v = 77 ∨ v = 82 ∨ v = 83 ∨ v = 84 ∨ v = 88 then 2 else if v = 58 ∨ v = 68 ∨ v = 71 ∨ v = 79 ∨ v = 126 then 1 else if v = 63 then 3 else if v = 67 then 6 else 0
abbrev isW (v : Int) : Prop := (48 ≤ v ∧ v ≤ 57) ∨ (97 ≤ v ∧ v ≤ 122) ∨ v = 37 ∨ v = 42 ∨ v = 43 ∨ v = 45 ∨ v = 47 ∨ v = 58 ∨ v = 60 ∨ v = 61 ∨ v = 63 ∨ v = 67 ∨ v = 68 ∨ v = 69 ∨ v = 70 ∨ v = 71 ∨ v = 76 ∨ v = 77 ∨ v = 78 ∨ v = 79 ∨ v = 80 ∨ v = 81 ∨ v = 82 ∨ v = 83 ∨ v = 84 ∨ v = 85 ∨ v = 86 ∨ v = 87 ∨ v = 88 ∨ v = 90 ∨ v = 123 ∨ v = 125 ∨ v = 126
theorem b01' {p : Prop} [Decidable p] : (if p then (1 : Int) else 0) = 0 ∨ (if p then (1 : Int) else 0) = 1 := b01
theorem wordC {v : Int} (s : gS) (h0 : 32 ≤ v) (h1 : v ≤ 126) : Text_isWord v s = some (if v = 32 ∨ isW v then 1 else 0, s) := by
  unfold Text_isWord
  rw [dgC s (w_v h0 h1), g_bi_s, w32_01 (dg_01 v), ltC s (w_v h0 h1), g_bi_s, w32_01 (lt_01 v), one_d s h0 h1, g_bi_s, w32_01 b01', one_a s h0 h1, g_bi_s, w32_01 b01', one_b s h0 h1, g_bi_s, w32_01 b01', one_c s h0 h1, g_bi_s, w32_01 b01']
  unfold dg lt
  by_cases e1 : 48 ≤ v ∧ v ≤ 57
  · rw [if_pos e1, if_neg (by decide), if_pos (by omega)]
  rw [if_neg e1, if_pos rfl]
  by_cases e2 : 97 ≤ v ∧ v ≤ 122
  · rw [if_pos e2, if_neg (by decide), if_pos (by omega)]
  rw [if_neg e2, if_pos rfl]
  by_cases e3 : in_d v
  · rw [if_pos e3, if_neg (by decide), if_pos (by omega)]
  rw [if_neg e3, if_pos rfl]
  by_cases e4 : in_a v
  · rw [if_pos e4, if_neg (by decide), if_pos (by omega)]
  rw [if_neg e4, if_pos rfl]
  by_cases e5 : in_b v
  · rw [if_pos e5, if_neg (by decide), if_pos (by omega)]
  rw [if_neg e5, if_pos rfl]
  by_cases e6 : in_c v
  · rw [if_pos e6, if_neg (by decide), if_pos (by omega)]
  rw [if_neg e6, if_pos rfl, if_neg (by omega)]
theorem m387 {v : Int} (s : gS) (hv : w32 v = v) (h : ¬ ((48 ≤ v ∧ v ≤ 57) ∨ (97 ≤ v ∧ v ≤ 122))) : M_needs_387 v s = some (-1, s) := by
  unfold M_needs_387
  rw [dgM s hv, g_bi_s, w32_01 (dg_01 v), ltM s hv, g_bi_s, w32_01 (lt_01 v)]
  unfold dg lt
  rw [if_neg (show ¬ (48 ≤ v ∧ v ≤ 57) by omega), if_pos rfl, if_neg (show ¬ (97 ≤ v ∧ v ≤ 122) by omega), if_pos rfl]
theorem m387w {v : Int} (s : gS) (hv : w32 v = v) (h : (48 ≤ v ∧ v ≤ 57) ∨ (97 ≤ v ∧ v ≤ 122)) : M_needs_387 v s = some (0, s) := by
  unfold M_needs_387
  rw [dgM s hv, g_bi_s, w32_01 (dg_01 v), ltM s hv, g_bi_s, w32_01 (lt_01 v)]
  unfold dg lt
  rcases h with h | h
  · rw [if_pos h, if_neg (by decide)]
  · rw [if_neg (show ¬ (48 ≤ v ∧ v ≤ 57) by omega), if_pos rfl, if_pos h, if_neg (by decide)]
theorem needsC {v : Int} (s : gS) (hv : w32 v = v) : Job_needs v s = some (nd v, s) := by
  unfold Job_needs
  rw [hv]
  by_cases e37 : v = 37
  · rw [if_pos e37, e37]; rfl
  rw [if_neg e37]
  by_cases e38 : v = 38
  · rw [if_pos e38, e38]; rfl
  rw [if_neg e38]
  by_cases e39 : v = 39
  · rw [if_pos e39, e39]; rfl
  rw [if_neg e39]
  by_cases e40 : v = 40
  · rw [if_pos e40, e40]; rfl
  rw [if_neg e40]
  by_cases e41 : v = 41
  · rw [if_pos e41, e41]; rfl
  rw [if_neg e41]
  by_cases e42 : v = 42
  · rw [if_pos e42, e42]; rfl
  rw [if_neg e42]
  by_cases e43 : v = 43
  · rw [if_pos e43, e43]; rfl
  rw [if_neg e43]
  by_cases e44 : v = 44
  · rw [if_pos e44, e44]; rfl
  rw [if_neg e44]
  by_cases e45 : v = 45
  · rw [if_pos e45, e45]; rfl
  rw [if_neg e45]
  by_cases e46 : v = 46
  · rw [if_pos e46, e46]; rfl
  rw [if_neg e46]
  by_cases e47 : v = 47
  · rw [if_pos e47, e47]; rfl
  rw [if_neg e47]
  by_cases e48 : v = 48
  · rw [if_pos e48, e48]; rfl
  rw [if_neg e48]
  by_cases e49 : v = 49
  · rw [if_pos e49, e49]; rfl
  rw [if_neg e49]
  by_cases e50 : v = 50
  · rw [if_pos e50, e50]; rfl
  rw [if_neg e50]
  by_cases e51 : v = 51
  · rw [if_pos e51, e51]; rfl
  rw [if_neg e51]
  by_cases e52 : v = 52
  · rw [if_pos e52, e52]; rfl
  rw [if_neg e52]
  by_cases e53 : v = 53
  · rw [if_pos e53, e53]; rfl
  rw [if_neg e53]
  by_cases e54 : v = 54
  · rw [if_pos e54, e54]; rfl
  rw [if_neg e54]
  by_cases e55 : v = 55
  · rw [if_pos e55, e55]; rfl
  rw [if_neg e55]
  by_cases e56 : v = 56
  · rw [if_pos e56, e56]; rfl
  rw [if_neg e56]
  by_cases e57 : v = 57
  · rw [if_pos e57, e57]; rfl
  rw [if_neg e57]
  by_cases e58 : v = 58
  · rw [if_pos e58, e58]; rfl
  rw [if_neg e58]
  by_cases e59 : v = 59
  · rw [if_pos e59, e59]; rfl
  rw [if_neg e59]
  by_cases e60 : v = 60
  · rw [if_pos e60, e60]; rfl
  rw [if_neg e60]
  by_cases e61 : v = 61
  · rw [if_pos e61, e61]; rfl
  rw [if_neg e61]
  by_cases e62 : v = 62
  · rw [if_pos e62, e62]; rfl
  rw [if_neg e62]
  by_cases e63 : v = 63
  · rw [if_pos e63, e63]; rfl
  rw [if_neg e63]
  by_cases e64 : v = 64
  · rw [if_pos e64, e64]; rfl
  rw [if_neg e64]
  by_cases e65 : v = 65
  · rw [if_pos e65, e65]; rfl
  rw [if_neg e65]
  by_cases e66 : v = 66
  · rw [if_pos e66, e66]; rfl
  rw [if_neg e66]
  by_cases e67 : v = 67
  · rw [if_pos e67, e67]; rfl
  rw [if_neg e67]
  by_cases e68 : v = 68
  · rw [if_pos e68, e68]; rfl
  rw [if_neg e68]
  by_cases e69 : v = 69
  · rw [if_pos e69, e69]; rfl
  rw [if_neg e69]
  by_cases e70 : v = 70
  · rw [if_pos e70, e70]; rfl
  rw [if_neg e70]
  by_cases e71 : v = 71
  · rw [if_pos e71, e71]; rfl
  rw [if_neg e71]
  by_cases e72 : v = 72
  · rw [if_pos e72, e72]; rfl
  rw [if_neg e72]
  by_cases e73 : v = 73
  · rw [if_pos e73, e73]; rfl
  rw [if_neg e73]
  by_cases e74 : v = 74
  · rw [if_pos e74, e74]; rfl
  rw [if_neg e74]
  by_cases e75 : v = 75
  · rw [if_pos e75, e75]; rfl
  rw [if_neg e75]
  by_cases e76 : v = 76
  · rw [if_pos e76, e76]; rfl
  rw [if_neg e76]
  by_cases e77 : v = 77
  · rw [if_pos e77, e77]; rfl
  rw [if_neg e77]
  by_cases e78 : v = 78
  · rw [if_pos e78, e78]; rfl
  rw [if_neg e78]
  by_cases e79 : v = 79
  · rw [if_pos e79, e79]; rfl
  rw [if_neg e79]
  by_cases e80 : v = 80
  · rw [if_pos e80, e80]; rfl
  rw [if_neg e80]
  by_cases e81 : v = 81
  · rw [if_pos e81, e81]; rfl
  rw [if_neg e81]
  by_cases e82 : v = 82
  · rw [if_pos e82, e82]; rfl
  rw [if_neg e82]
  by_cases e83 : v = 83
  · rw [if_pos e83, e83]; rfl
  rw [if_neg e83]
  by_cases e84 : v = 84
  · rw [if_pos e84, e84]; rfl
  rw [if_neg e84]
  by_cases e85 : v = 85
  · rw [if_pos e85, e85]; rfl
  rw [if_neg e85]
  by_cases e86 : v = 86
  · rw [if_pos e86, e86]; rfl
  rw [if_neg e86]
  by_cases e87 : v = 87
  · rw [if_pos e87, e87]; rfl
  rw [if_neg e87]
  by_cases e88 : v = 88
  · rw [if_pos e88, e88]; rfl
  rw [if_neg e88]
  by_cases e89 : v = 89
  · rw [if_pos e89, e89]; rfl
  rw [if_neg e89]
  by_cases e90 : v = 90
  · rw [if_pos e90, e90]; rfl
  rw [if_neg e90]
  by_cases e91 : v = 91
  · rw [if_pos e91, e91]; rfl
  rw [if_neg e91]
  by_cases e92 : v = 92
  · rw [if_pos e92, e92]; rfl
  rw [if_neg e92]
  by_cases e93 : v = 93
  · rw [if_pos e93, e93]; rfl
  rw [if_neg e93]
  by_cases e94 : v = 94
  · rw [if_pos e94, e94]; rfl
  rw [if_neg e94]
  by_cases e95 : v = 95
  · rw [if_pos e95, e95]; rfl
  rw [if_neg e95]
  by_cases e96 : v = 96
  · rw [if_pos e96, e96]; rfl
  rw [if_neg e96]
  by_cases e97 : v = 97
  · rw [if_pos e97, e97]; rfl
  rw [if_neg e97]
  by_cases e98 : v = 98
  · rw [if_pos e98, e98]; rfl
  rw [if_neg e98]
  by_cases e99 : v = 99
  · rw [if_pos e99, e99]; rfl
  rw [if_neg e99]
  by_cases e100 : v = 100
  · rw [if_pos e100, e100]; rfl
  rw [if_neg e100]
  by_cases e101 : v = 101
  · rw [if_pos e101, e101]; rfl
  rw [if_neg e101]
  by_cases e102 : v = 102
  · rw [if_pos e102, e102]; rfl
  rw [if_neg e102]
  by_cases e103 : v = 103
  · rw [if_pos e103, e103]; rfl
  rw [if_neg e103]
  by_cases e104 : v = 104
  · rw [if_pos e104, e104]; rfl
  rw [if_neg e104]
  by_cases e105 : v = 105
  · rw [if_pos e105, e105]; rfl
  rw [if_neg e105]
  by_cases e106 : v = 106
  · rw [if_pos e106, e106]; rfl
  rw [if_neg e106]
  by_cases e107 : v = 107
  · rw [if_pos e107, e107]; rfl
  rw [if_neg e107]
  by_cases e108 : v = 108
  · rw [if_pos e108, e108]; rfl
  rw [if_neg e108]
  by_cases e109 : v = 109
  · rw [if_pos e109, e109]; rfl
  rw [if_neg e109]
  by_cases e110 : v = 110
  · rw [if_pos e110, e110]; rfl
  rw [if_neg e110]
  by_cases e111 : v = 111
  · rw [if_pos e111, e111]; rfl
  rw [if_neg e111]
  by_cases e112 : v = 112
  · rw [if_pos e112, e112]; rfl
  rw [if_neg e112]
  by_cases e113 : v = 113
  · rw [if_pos e113, e113]; rfl
  rw [if_neg e113]
  by_cases e114 : v = 114
  · rw [if_pos e114, e114]; rfl
  rw [if_neg e114]
  by_cases e115 : v = 115
  · rw [if_pos e115, e115]; rfl
  rw [if_neg e115]
  by_cases e116 : v = 116
  · rw [if_pos e116, e116]; rfl
  rw [if_neg e116]
  by_cases e117 : v = 117
  · rw [if_pos e117, e117]; rfl
  rw [if_neg e117]
  by_cases e118 : v = 118
  · rw [if_pos e118, e118]; rfl
  rw [if_neg e118]
  by_cases e119 : v = 119
  · rw [if_pos e119, e119]; rfl
  rw [if_neg e119]
  by_cases e120 : v = 120
  · rw [if_pos e120, e120]; rfl
  rw [if_neg e120]
  by_cases e121 : v = 121
  · rw [if_pos e121, e121]; rfl
  rw [if_neg e121]
  by_cases e122 : v = 122
  · rw [if_pos e122, e122]; rfl
  rw [if_neg e122]
  by_cases e123 : v = 123
  · rw [if_pos e123, e123]; rfl
  rw [if_neg e123]
  by_cases e124 : v = 124
  · rw [if_pos e124, e124]; rfl
  rw [if_neg e124]
  by_cases e125 : v = 125
  · rw [if_pos e125, e125]; rfl
  rw [if_neg e125]
  by_cases e126 : v = 126
  · rw [if_pos e126, e126]; rfl
  rw [if_neg e126]
  unfold nd
  rw [if_neg (by omega), if_neg (by omega), if_neg (by omega), if_neg (by omega)]
theorem needsM {v : Int} (s : gS) (hv : w32 v = v) : M_needs v s = some (if isW v then nd v else -1, s) := by
  unfold M_needs
  rw [hv]
  by_cases e37 : v = 37
  · rw [if_pos e37, e37]; rfl
  rw [if_neg e37]
  by_cases e38 : v = 38
  · rw [if_pos e38, m387 s hv (by omega), e38]; rfl
  rw [if_neg e38]
  by_cases e39 : v = 39
  · rw [if_pos e39, m387 s hv (by omega), e39]; rfl
  rw [if_neg e39]
  by_cases e40 : v = 40
  · rw [if_pos e40, m387 s hv (by omega), e40]; rfl
  rw [if_neg e40]
  by_cases e41 : v = 41
  · rw [if_pos e41, m387 s hv (by omega), e41]; rfl
  rw [if_neg e41]
  by_cases e42 : v = 42
  · rw [if_pos e42, e42]; rfl
  rw [if_neg e42]
  by_cases e43 : v = 43
  · rw [if_pos e43, e43]; rfl
  rw [if_neg e43]
  by_cases e44 : v = 44
  · rw [if_pos e44, m387 s hv (by omega), e44]; rfl
  rw [if_neg e44]
  by_cases e45 : v = 45
  · rw [if_pos e45, e45]; rfl
  rw [if_neg e45]
  by_cases e46 : v = 46
  · rw [if_pos e46, m387 s hv (by omega), e46]; rfl
  rw [if_neg e46]
  by_cases e47 : v = 47
  · rw [if_pos e47, e47]; rfl
  rw [if_neg e47]
  by_cases e48 : v = 48
  · rw [if_pos e48, m387w s hv (by omega), e48]; rfl
  rw [if_neg e48]
  by_cases e49 : v = 49
  · rw [if_pos e49, m387w s hv (by omega), e49]; rfl
  rw [if_neg e49]
  by_cases e50 : v = 50
  · rw [if_pos e50, m387w s hv (by omega), e50]; rfl
  rw [if_neg e50]
  by_cases e51 : v = 51
  · rw [if_pos e51, m387w s hv (by omega), e51]; rfl
  rw [if_neg e51]
  by_cases e52 : v = 52
  · rw [if_pos e52, m387w s hv (by omega), e52]; rfl
  rw [if_neg e52]
  by_cases e53 : v = 53
  · rw [if_pos e53, m387w s hv (by omega), e53]; rfl
  rw [if_neg e53]
  by_cases e54 : v = 54
  · rw [if_pos e54, m387w s hv (by omega), e54]; rfl
  rw [if_neg e54]
  by_cases e55 : v = 55
  · rw [if_pos e55, m387w s hv (by omega), e55]; rfl
  rw [if_neg e55]
  by_cases e56 : v = 56
  · rw [if_pos e56, m387w s hv (by omega), e56]; rfl
  rw [if_neg e56]
  by_cases e57 : v = 57
  · rw [if_pos e57, m387w s hv (by omega), e57]; rfl
  rw [if_neg e57]
  by_cases e58 : v = 58
  · rw [if_pos e58, e58]; rfl
  rw [if_neg e58]
  by_cases e59 : v = 59
  · rw [if_pos e59, m387 s hv (by omega), e59]; rfl
  rw [if_neg e59]
  by_cases e60 : v = 60
  · rw [if_pos e60, e60]; rfl
  rw [if_neg e60]
  by_cases e61 : v = 61
  · rw [if_pos e61, e61]; rfl
  rw [if_neg e61]
  by_cases e62 : v = 62
  · rw [if_pos e62, m387 s hv (by omega), e62]; rfl
  rw [if_neg e62]
  by_cases e63 : v = 63
  · rw [if_pos e63, e63]; rfl
  rw [if_neg e63]
  by_cases e64 : v = 64
  · rw [if_pos e64, m387 s hv (by omega), e64]; rfl
  rw [if_neg e64]
  by_cases e65 : v = 65
  · rw [if_pos e65, m387 s hv (by omega), e65]; rfl
  rw [if_neg e65]
  by_cases e66 : v = 66
  · rw [if_pos e66, m387 s hv (by omega), e66]; rfl
  rw [if_neg e66]
  by_cases e67 : v = 67
  · rw [if_pos e67, e67]; rfl
  rw [if_neg e67]
  by_cases e68 : v = 68
  · rw [if_pos e68, e68]; rfl
  rw [if_neg e68]
  by_cases e69 : v = 69
  · rw [if_pos e69, e69]; rfl
  rw [if_neg e69]
  by_cases e70 : v = 70
  · rw [if_pos e70, e70]; rfl
  rw [if_neg e70]
  by_cases e71 : v = 71
  · rw [if_pos e71, e71]; rfl
  rw [if_neg e71]
  by_cases e72 : v = 72
  · rw [if_pos e72, m387 s hv (by omega), e72]; rfl
  rw [if_neg e72]
  by_cases e73 : v = 73
  · rw [if_pos e73, m387 s hv (by omega), e73]; rfl
  rw [if_neg e73]
  by_cases e74 : v = 74
  · rw [if_pos e74, m387 s hv (by omega), e74]; rfl
  rw [if_neg e74]
  by_cases e75 : v = 75
  · rw [if_pos e75, m387 s hv (by omega), e75]; rfl
  rw [if_neg e75]
  by_cases e76 : v = 76
  · rw [if_pos e76, e76]; rfl
  rw [if_neg e76]
  by_cases e77 : v = 77
  · rw [if_pos e77, e77]; rfl
  rw [if_neg e77]
  by_cases e78 : v = 78
  · rw [if_pos e78, e78]; rfl
  rw [if_neg e78]
  by_cases e79 : v = 79
  · rw [if_pos e79, e79]; rfl
  rw [if_neg e79]
  by_cases e80 : v = 80
  · rw [if_pos e80, e80]; rfl
  rw [if_neg e80]
  by_cases e81 : v = 81
  · rw [if_pos e81, e81]; rfl
  rw [if_neg e81]
  by_cases e82 : v = 82
  · rw [if_pos e82, e82]; rfl
  rw [if_neg e82]
  by_cases e83 : v = 83
  · rw [if_pos e83, e83]; rfl
  rw [if_neg e83]
  by_cases e84 : v = 84
  · rw [if_pos e84, e84]; rfl
  rw [if_neg e84]
  by_cases e85 : v = 85
  · rw [if_pos e85, e85]; rfl
  rw [if_neg e85]
  by_cases e86 : v = 86
  · rw [if_pos e86, e86]; rfl
  rw [if_neg e86]
  by_cases e87 : v = 87
  · rw [if_pos e87, e87]; rfl
  rw [if_neg e87]
  by_cases e88 : v = 88
  · rw [if_pos e88, e88]; rfl
  rw [if_neg e88]
  by_cases e89 : v = 89
  · rw [if_pos e89, m387 s hv (by omega), e89]; rfl
  rw [if_neg e89]
  by_cases e90 : v = 90
  · rw [if_pos e90, e90]; rfl
  rw [if_neg e90]
  by_cases e91 : v = 91
  · rw [if_pos e91, m387 s hv (by omega), e91]; rfl
  rw [if_neg e91]
  by_cases e92 : v = 92
  · rw [if_pos e92, m387 s hv (by omega), e92]; rfl
  rw [if_neg e92]
  by_cases e93 : v = 93
  · rw [if_pos e93, m387 s hv (by omega), e93]; rfl
  rw [if_neg e93]
  by_cases e94 : v = 94
  · rw [if_pos e94, m387 s hv (by omega), e94]; rfl
  rw [if_neg e94]
  by_cases e95 : v = 95
  · rw [if_pos e95, m387 s hv (by omega), e95]; rfl
  rw [if_neg e95]
  by_cases e96 : v = 96
  · rw [if_pos e96, m387 s hv (by omega), e96]; rfl
  rw [if_neg e96]
  by_cases e97 : v = 97
  · rw [if_pos e97, m387w s hv (by omega), e97]; rfl
  rw [if_neg e97]
  by_cases e98 : v = 98
  · rw [if_pos e98, m387w s hv (by omega), e98]; rfl
  rw [if_neg e98]
  by_cases e99 : v = 99
  · rw [if_pos e99, m387w s hv (by omega), e99]; rfl
  rw [if_neg e99]
  by_cases e100 : v = 100
  · rw [if_pos e100, m387w s hv (by omega), e100]; rfl
  rw [if_neg e100]
  by_cases e101 : v = 101
  · rw [if_pos e101, m387w s hv (by omega), e101]; rfl
  rw [if_neg e101]
  by_cases e102 : v = 102
  · rw [if_pos e102, m387w s hv (by omega), e102]; rfl
  rw [if_neg e102]
  by_cases e103 : v = 103
  · rw [if_pos e103, m387w s hv (by omega), e103]; rfl
  rw [if_neg e103]
  by_cases e104 : v = 104
  · rw [if_pos e104, m387w s hv (by omega), e104]; rfl
  rw [if_neg e104]
  by_cases e105 : v = 105
  · rw [if_pos e105, m387w s hv (by omega), e105]; rfl
  rw [if_neg e105]
  by_cases e106 : v = 106
  · rw [if_pos e106, m387w s hv (by omega), e106]; rfl
  rw [if_neg e106]
  by_cases e107 : v = 107
  · rw [if_pos e107, m387w s hv (by omega), e107]; rfl
  rw [if_neg e107]
  by_cases e108 : v = 108
  · rw [if_pos e108, m387w s hv (by omega), e108]; rfl
  rw [if_neg e108]
  by_cases e109 : v = 109
  · rw [if_pos e109, m387w s hv (by omega), e109]; rfl
  rw [if_neg e109]
  by_cases e110 : v = 110
  · rw [if_pos e110, m387w s hv (by omega), e110]; rfl
  rw [if_neg e110]
  by_cases e111 : v = 111
  · rw [if_pos e111, m387w s hv (by omega), e111]; rfl
  rw [if_neg e111]
  by_cases e112 : v = 112
  · rw [if_pos e112, m387w s hv (by omega), e112]; rfl
  rw [if_neg e112]
  by_cases e113 : v = 113
  · rw [if_pos e113, m387w s hv (by omega), e113]; rfl
  rw [if_neg e113]
  by_cases e114 : v = 114
  · rw [if_pos e114, m387w s hv (by omega), e114]; rfl
  rw [if_neg e114]
  by_cases e115 : v = 115
  · rw [if_pos e115, m387w s hv (by omega), e115]; rfl
  rw [if_neg e115]
  by_cases e116 : v = 116
  · rw [if_pos e116, m387w s hv (by omega), e116]; rfl
  rw [if_neg e116]
  by_cases e117 : v = 117
  · rw [if_pos e117, m387w s hv (by omega), e117]; rfl
  rw [if_neg e117]
  by_cases e118 : v = 118
  · rw [if_pos e118, m387w s hv (by omega), e118]; rfl
  rw [if_neg e118]
  by_cases e119 : v = 119
  · rw [if_pos e119, m387w s hv (by omega), e119]; rfl
  rw [if_neg e119]
  by_cases e120 : v = 120
  · rw [if_pos e120, m387w s hv (by omega), e120]; rfl
  rw [if_neg e120]
  by_cases e121 : v = 121
  · rw [if_pos e121, m387w s hv (by omega), e121]; rfl
  rw [if_neg e121]
  by_cases e122 : v = 122
  · rw [if_pos e122, m387w s hv (by omega), e122]; rfl
  rw [if_neg e122]
  by_cases e123 : v = 123
  · rw [if_pos e123, e123]; rfl
  rw [if_neg e123]
  by_cases e124 : v = 124
  · rw [if_pos e124, m387 s hv (by omega), e124]; rfl
  rw [if_neg e124]
  by_cases e125 : v = 125
  · rw [if_pos e125, e125]; rfl
  rw [if_neg e125]
  by_cases e126 : v = 126
  · rw [if_pos e126, e126]; rfl
  rw [if_neg e126]
  rw [m387 s hv (by omega), if_neg (by omega)]

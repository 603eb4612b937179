/-! one tick on both sides -/
theorem g_up_self (s : gS) (q k : Nat) : g_up s q k (s q k) = s := by
  funext i j
  rw [g_up_at]
  split
  · next h => rw [h.1, h.2]
  · rfl
theorem i_nar0 : i_nar .boolean 0 = 0 := i_nar_01 (Or.inl rfl)
def z44 (s : gS) : gS := g_up (g_up (g_up (g_up s 44 0 0) 44 1 0) 44 2 0) 44 3 0
def z45 (s : gS) : gS := g_up (g_up (g_up (g_up s 45 0 0) 45 1 0) 45 2 0) 45 3 0
def z72 (s : gS) : gS := g_up (g_up (g_up (g_up s 72 0 0) 72 1 0) 72 2 0) 72 3 0
def zQ (s : gS) : gS := g_up (g_up (g_up (g_up (g_up (g_up (g_up (g_up s 72 0 0) 69 0 0) 72 1 0) 69 1 0) 72 2 0) 69 2 0) 72 3 0) 69 3 0
theorem z44_step {k : Int → gS → gA} {k20 : gS → gA} {j : Nat} {s : gS} (hj : j < 4) : Machine_moveAll_2 k k20 j s = k ((j + 1 : Nat) : Int) (g_up s 44 j 0) := by
  unfold Machine_moveAll_2
  rw [w_nat (by omega), if_neg (by omega), if_pos (show (0 : Int) ≤ j ∧ (j : Int) < 4 by omega), Int.toNat_natCast, i_nar0, g_le_s]
  rfl
theorem z44_end {k : Int → gS → gA} {k20 : gS → gA} {s : gS} : Machine_moveAll_2 k k20 ((4 : Nat) : Int) s = k20 s := by
  unfold Machine_moveAll_2
  rw [if_pos (by decide)]
theorem z44_all (s : gS) : Machine_moveAll s = Machine_moveAll_20 (z44 s) := by
  show Machine_moveAll_2 (Machine_moveAll_2 (Machine_moveAll_2 (Machine_moveAll_2 (Machine_moveAll_2 (Machine_moveAll_2L Machine_moveAll_20 999999999995) Machine_moveAll_20) Machine_moveAll_20) Machine_moveAll_20) Machine_moveAll_20) Machine_moveAll_20 ((0 : Nat) : Int) s = _
  rw [z44_step (by decide), z44_step (by decide), z44_step (by decide), z44_step (by decide), z44_end]
  rfl
theorem z45_step {k : Int → Int → Int → gS → gA} {j : Nat} {s : gS} (hj : j < 4) : Arrays_fill1_b_5 k 0 j 4 s = k 0 ((j + 1 : Nat) : Int) 4 (g_up s 45 j 0) := by
  unfold Arrays_fill1_b_5
  rw [w_nat (by omega), w_4, if_neg (by omega), if_pos (show (0 : Int) ≤ j ∧ (j : Int) < 4 by omega), Int.toNat_natCast, g_le_s]
  rfl
theorem z45_all (s : gS) : Arrays_fill1_b 0 s = some (0, z45 s) := by
  show Arrays_fill1_b_5 (Arrays_fill1_b_5 (Arrays_fill1_b_5 (Arrays_fill1_b_5 (Arrays_fill1_b_5 (Arrays_fill1_b_5L 999999999995))))) 0 ((0 : Nat) : Int) 4 s = _
  rw [z45_step (by decide), z45_step (by decide), z45_step (by decide), z45_step (by decide)]
  unfold Arrays_fill1_b_5
  rw [if_pos (by decide)]
  rfl
theorem z72_step {k : Int → Int → gS → gA} {k2 : Int → gS → gA} {j : Nat} {s : gS} (hj : j < 4) : M_tickOnce_178 k k2 0 j s = k 0 ((j + 1 : Nat) : Int) (g_up s 72 j 0) := by
  unfold M_tickOnce_178 M_tickOnce_209
  rw [w_nat (by omega), if_neg (by omega), if_pos (show (0 : Int) ≤ j ∧ (j : Int) < 4 by omega), Int.toNat_natCast, i_nar0, g_le_s, if_pos (by decide), if_pos (show (0 : Int) ≤ j ∧ (j : Int) < 4 by omega), if_pos (show (0 : Int) ≤ j ∧ (j : Int) < 4 by omega), g_le_s, g_up_self]
  rfl
theorem zQ_step {k : Int → Int → gS → gA} {k2 : Int → gS → gA} {j : Nat} {s : gS} (hj : j < 4) : M_tickOnce_178 k k2 1 j s = k 1 ((j + 1 : Nat) : Int) (g_up (g_up s 72 j 0) 69 j 0) := by
  unfold M_tickOnce_178 M_tickOnce_209
  rw [w_nat (by omega), if_neg (by omega), if_pos (show (0 : Int) ≤ j ∧ (j : Int) < 4 by omega), Int.toNat_natCast, i_nar0, g_le_s, if_neg (by decide), if_pos (show (0 : Int) ≤ j ∧ (j : Int) < 4 by omega), g_le_s]
  rfl
theorem z7_end {k : Int → Int → gS → gA} {k2 : Int → gS → gA} {l : Int} {s : gS} : M_tickOnce_178 k k2 l ((4 : Nat) : Int) s = k2 l s := by
  unfold M_tickOnce_178
  rw [if_pos (by decide)]
theorem z72_all (s : gS) : M_tickOnce_175 0 s = M_tickOnce_216 0 (z72 s) := by
  show M_tickOnce_178 (M_tickOnce_178 (M_tickOnce_178 (M_tickOnce_178 (M_tickOnce_178 (M_tickOnce_178L M_tickOnce_216 999999999995) M_tickOnce_216) M_tickOnce_216) M_tickOnce_216) M_tickOnce_216) M_tickOnce_216 0 ((0 : Nat) : Int) s = _
  rw [z72_step (by decide), z72_step (by decide), z72_step (by decide), z72_step (by decide), z7_end]
  rfl
theorem zQ_all (s : gS) : M_tickOnce_175 1 s = some (0, zQ s) := by
  show M_tickOnce_178 (M_tickOnce_178 (M_tickOnce_178 (M_tickOnce_178 (M_tickOnce_178 (M_tickOnce_178L M_tickOnce_216 999999999995) M_tickOnce_216) M_tickOnce_216) M_tickOnce_216) M_tickOnce_216) M_tickOnce_216 1 ((0 : Nat) : Int) s = _
  rw [zQ_step (by decide), zQ_step (by decide), zQ_step (by decide), zQ_step (by decide), z7_end]
  unfold M_tickOnce_216
  rw [if_neg (by decide)]
  rfl
theorem z44_at (s : gS) {i : Nat} (hi : i < 4) : z44 s 44 i = 0 := by
  unfold z44
  rcases (show i = 0 ∨ i = 1 ∨ i = 2 ∨ i = 3 by omega) with rfl | rfl | rfl | rfl <;> simp (disch := decide) only [up_n, up_y]
theorem z44_ne (s : gS) {q : Nat} (hq : q ≠ 44) : z44 s q = s q := by unfold z44; simp (disch := omega) only [g_up_ne]
theorem z45_at (s : gS) {i : Nat} (hi : i < 4) : z45 s 45 i = 0 := by
  unfold z45
  rcases (show i = 0 ∨ i = 1 ∨ i = 2 ∨ i = 3 by omega) with rfl | rfl | rfl | rfl <;> simp (disch := decide) only [up_n, up_y]
theorem z45_ne (s : gS) {q : Nat} (hq : q ≠ 45) : z45 s q = s q := by unfold z45; simp (disch := omega) only [g_up_ne]
theorem z72_at (s : gS) {i : Nat} (hi : i < 4) : z72 s 72 i = 0 := by
  unfold z72
  rcases (show i = 0 ∨ i = 1 ∨ i = 2 ∨ i = 3 by omega) with rfl | rfl | rfl | rfl <;> simp (disch := decide) only [up_n, up_y]
theorem z72_ne (s : gS) {q : Nat} (hq : q ≠ 72) : z72 s q = s q := by unfold z72; simp (disch := omega) only [g_up_ne]
theorem zQ_at (s : gS) {i : Nat} (hi : i < 4) : zQ s 69 i = 0 := by
  unfold zQ
  rcases (show i = 0 ∨ i = 1 ∨ i = 2 ∨ i = 3 by omega) with rfl | rfl | rfl | rfl <;> simp (disch := decide) only [up_n, up_y, g_up_ne]
theorem zQ_ne (s : gS) {q : Nat} (hq : q ≠ 72) (hq2 : q ≠ 69) : zQ s q = s q := by unfold zQ; simp (disch := omega) only [g_up_ne]
section TK
variable {n : Int} {c m : gS}
theorem RP_DT (h : RP n c m) (ho : m 49 46 = 0) (hj : m 49 47 = 0) : DT (fun _ => false) n (z44 c) (z72 m) := by
  obtain ⟨hE, hS, hG, hO, hI, hK, hQ⟩ := h
  have e44 : ∀ i, i < 4 → z44 c 44 i = 0 := fun i hi => z44_at c hi
  have e72 : ∀ i, i < 4 → z72 m 72 i = 0 := fun i hi => z72_at m hi
  have n44 : ∀ q, q ≠ 44 → z44 c q = c q := fun q hq => z44_ne c hq
  have n72 : ∀ q, q ≠ 72 → z72 m q = m q := fun q hq => z72_ne m hq
  unfold DT dS pE pS pG pO pI pQ sdsM at *
  simp (disch := decide) only [n44, n72]
  refine ⟨hE, hS, hG, hO, hI, hQ, ho, hj, fun i hi => ?_⟩
  obtain ⟨k1, k2, k3, k4, k5⟩ := hK i hi
  rw [e44 i hi, e72 i hi]
  have k1x : c 45 i = m 69 i ∨ m 67 i = -1 ∨ (0 : Int) = 1 := by
    rcases k1 with k1 | k1 | k1
    · exact Or.inl k1
    · exact Or.inr (Or.inl k1)
    · omega
  exact ⟨rfl, Or.inl rfl, fun q => by omega, k2, by omega, k4, k5, fun q => (by cases q), fun _ => ⟨k3, k1x⟩⟩
theorem RP_still (h : RP n c m) : RP n (z45 c) (zQ m) := by
  obtain ⟨hE, hS, hG, hO, hI, hK, hQ⟩ := h
  have e45 : ∀ i, i < 4 → z45 c 45 i = 0 := fun i hi => z45_at c hi
  have e69 : ∀ i, i < 4 → zQ m 69 i = 0 := fun i hi => zQ_at m hi
  have n45 : ∀ q, q ≠ 45 → z45 c q = c q := fun q hq => z45_ne c hq
  have nQ : ∀ q, q ≠ 72 → q ≠ 69 → zQ m q = m q := fun q hq hq2 => zQ_ne m hq hq2
  unfold RP pE pS pG pO pI pK pQ sdsM at *
  simp (disch := decide) only [n45, nQ]
  refine ⟨hE, hS, hG, hO, hI, fun i hi => ?_, hQ⟩
  rw [e45 i hi, e69 i hi]
  exact ⟨Or.inl rfl, by omega, by omega, by omega, by omega⟩
theorem fC_z44 : fC pcC c (z44 c) := fC_tr (fC_tr (fC_tr (fC_up rfl) (fC_up rfl)) (fC_up rfl)) (fC_up rfl)
theorem fC_z45 : fC pcC c (z45 c) := fC_tr (fC_tr (fC_tr (fC_up rfl) (fC_up rfl)) (fC_up rfl)) (fC_up rfl)
theorem fM_z72 : fM pcT m (z72 m) := fM_tr (fM_tr (fM_tr (fM_up rfl) (fM_up rfl)) (fM_up rfl)) (fM_up rfl)
theorem fM_zQ : fM pcT m (zQ m) := fM_tr (fM_tr (fM_tr (fM_tr (fM_tr (fM_tr (fM_tr (fM_up rfl) (fM_up rfl)) (fM_up rfl)) (fM_up rfl)) (fM_up rfl)) (fM_up rfl)) (fM_up rfl)) (fM_up rfl)
/-- the sections, where nothing stands still -/
theorem go_both (h : RP n c m) (ho : m 49 46 = 0) (hj : m 49 47 = 0) : ∃ c' m' : gS, Machine_pass_99 c = some (0, c') ∧ M_tickOnce_159 0 m = some (0, m') ∧ RP n c' m' ∧ fC pcC c c' ∧ fM pcT m m' := by
  obtain ⟨c', m', k1, k2, k3, k4, k5⟩ := all_both (RP_DT h ho hj)
  have o1 : c 40 8 = 0 := h.1.2.2.1.trans ho
  have j1 : c 40 11 = 0 := h.1.2.2.2.2.2.1.trans hj
  refine ⟨c', m', ?_, ?_, k3, fC_tr fC_z44 k4, fM_tr fM_z72 k5⟩
  · unfold Machine_pass_99
    rw [o1, j1, if_pos (by decide), if_pos (by decide), z44_all, k1, g_bi_s]
  · unfold M_tickOnce_159
    rw [hj, if_pos (by decide), if_pos (by decide), z72_all, k2]
/-- all stands still -/
theorem still_both {l : Int} (h : RP n c m) (hs : l = 1 ∨ (l = 0 ∧ m 49 47 = 1)) (hl : m 49 46 = l) : ∃ c' m' : gS, Machine_pass_99 c = some (0, c') ∧ M_tickOnce_159 l m = some (0, m') ∧ RP n c' m' ∧ fC pcC c c' ∧ fM pcT m m' := by
  have o1 : c 40 8 = l := h.1.2.2.1.trans hl
  have j1 : c 40 11 = m 49 47 := h.1.2.2.2.2.2.1
  refine ⟨z45 c, zQ m, ?_, ?_, RP_still h, fC_z45, fM_zQ⟩
  · unfold Machine_pass_99 Machine_pass_113
    rw [o1, j1, z45_all, g_bi_s]
    rcases hs with rfl | ⟨rfl, hs⟩
    · rw [if_neg (by decide)]
    · rw [if_pos (by decide), hs, if_neg (by decide)]
  · unfold M_tickOnce_159 M_tickOnce_170
    rw [zQ_all]
    rcases hs with rfl | ⟨rfl, hs⟩
    · rw [if_neg (by decide)]
    · rw [if_pos (by decide), hs, if_neg (by decide)]
end TK

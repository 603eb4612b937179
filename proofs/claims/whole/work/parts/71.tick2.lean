/-! ticks: warmth, the jam that goes, the row of ticks -/
def stk (f : Nat → Int) : Int := if w32 (f 0) = 0 ∧ w32 (f 1) = 0 ∧ w32 (f 2) = 0 ∧ w32 (f 3) = 0 then 0 else 1
theorem stk_01 (f : Nat → Int) : stk f = 0 ∨ stk f = 1 := by unfold stk; split <;> simp
theorem stk_congr {f g : Nat → Int} (h : ∀ i, i < 4 → f i = g i) : stk f = stk g := by
  unfold stk
  rw [h 0 (by decide), h 1 (by decide), h 2 (by decide), h 3 (by decide)]
theorem anyC_step {k : Int → gS → gA} {j : Nat} {s : gS} (hj : j < 4) : Machine_anySticks_2 k j s = if w32 (s 43 j) = 0 then k ((j + 1 : Nat) : Int) s else some (1, s) := by
  unfold Machine_anySticks_2
  rw [w_nat (by omega), if_neg (by omega), if_pos (by omega), Int.toNat_natCast]
  rfl
theorem anyC_end {k : Int → gS → gA} {s : gS} : Machine_anySticks_2 k ((4 : Nat) : Int) s = some (0, s) := by
  unfold Machine_anySticks_2
  rw [if_pos (by decide)]
theorem anyC (s : gS) : Machine_anySticks s = some (stk (s 43), s) := by
  show Machine_anySticks_2 (Machine_anySticks_2 (Machine_anySticks_2 (Machine_anySticks_2 (Machine_anySticks_2 (Machine_anySticks_2L 999999999995))))) ((0 : Nat) : Int) s = _
  rw [anyC_step (by decide), anyC_step (by decide), anyC_step (by decide), anyC_step (by decide), anyC_end]
  unfold stk
  by_cases h0 : w32 (s 43 0) = 0
  · rw [if_pos h0]
    by_cases h1 : w32 (s 43 1) = 0
    · rw [if_pos h1]
      by_cases h2 : w32 (s 43 2) = 0
      · rw [if_pos h2]
        by_cases h3 : w32 (s 43 3) = 0
        · rw [if_pos h3, if_pos ⟨h0, h1, h2, h3⟩]
        · rw [if_neg h3, if_neg (by omega)]
      · rw [if_neg h2, if_neg (by omega)]
    · rw [if_neg h1, if_neg (by omega)]
  · rw [if_neg h0, if_neg (by omega)]
theorem anyM_step {k : Int → Int → Int → gS → gA} {k2 : Int → Int → gS → gA} {l b : Int} {j : Nat} {s : gS} (hj : j < 4) (hb : b = 0 ∨ b = 1) : M_tickOnce_122 k k2 l b j s = k l (if b = 0 ∧ w32 (s 71 j) = 0 then 0 else 1) ((j + 1 : Nat) : Int) s := by
  unfold M_tickOnce_122 M_tickOnce_142 M_tickOnce_147
  rw [w_nat (by omega), if_neg (by omega), w32_01 hb, if_pos (show (0 : Int) ≤ j ∧ (j : Int) < 4 by omega), Int.toNat_natCast]
  rcases hb with rfl | rfl
  · by_cases e : w32 (s 71 j) = 0 <;> simp [e]
  · simp
theorem anyM_end {k : Int → Int → Int → gS → gA} {k2 : Int → Int → gS → gA} {l b : Int} {s : gS} : M_tickOnce_122 k k2 l b ((4 : Nat) : Int) s = k2 l b s := by
  unfold M_tickOnce_122
  rw [if_pos (by decide)]
theorem b10 {p : Prop} [Decidable p] : (if p then (0 : Int) else 1) = 0 ∨ (if p then (0 : Int) else 1) = 1 := by split <;> simp
theorem anyM {l b : Int} (s : gS) (hb : b = 0 ∨ b = 1) : M_tickOnce_118 l b s = M_tickOnce_154 l (if b = 0 ∧ stk (s 71) = 0 then 0 else 1) s := by
  show M_tickOnce_122 (M_tickOnce_122 (M_tickOnce_122 (M_tickOnce_122 (M_tickOnce_122 (M_tickOnce_122L M_tickOnce_154 999999999995) M_tickOnce_154) M_tickOnce_154) M_tickOnce_154) M_tickOnce_154) M_tickOnce_154 l b ((0 : Nat) : Int) s = _
  rw [anyM_step (by decide) hb, anyM_step (by decide) b10, anyM_step (by decide) b10, anyM_step (by decide) b10, anyM_end]
  congr 1
  unfold stk
  by_cases b1 : b = 0 <;> by_cases e0 : w32 (s 71 0) = 0 <;> by_cases e1 : w32 (s 71 1) = 0 <;> by_cases e2 : w32 (s 71 2) = 0 <;> by_cases e3 : w32 (s 71 3) = 0 <;> simp [b1, e0, e1, e2, e3]
section TK2
variable {n : Int} {c m : gS}
theorem RP_ticks (h : RP n c m) : RP n (g_up c 40 9 (c 40 9 + 1)) (g_up m 49 42 (m 49 42 + 1)) := by
  obtain ⟨hE, hS, hG, hO, hI, hK, hQ⟩ := h
  unfold RP pE pS pG pO pI pK pQ sdsM at *
  simp (disch := decide) only [up_n, up_y, g_up_ne]
  exact ⟨⟨hE.1, hE.2.1, hE.2.2.1, by rw [hE.2.2.2.1], hE.2.2.2.2⟩, hS, hG, hO, hI, hK, hQ⟩
theorem RP_heat {t : Int} (h : RP n c m) (h0 : 0 ≤ t) (h1 : t ≤ 100) : RP n (g_up c 40 6 t) (g_up m 49 41 t) := by
  obtain ⟨hE, hS, hG, hO, hI, hK, hQ⟩ := h
  unfold RP pE pS pG pO pI pK pQ sdsM at *
  simp (disch := decide) only [up_n, up_y, g_up_ne]
  exact ⟨⟨trivial, hE.2⟩, hS, ⟨h0, h1, hG.2.2⟩, hO, hI, hK, hQ⟩
theorem RP_free (h : RP n c m) (hi : ins (m 67) = 0) : RP n (g_up c 40 11 0) (g_up m 49 47 0) := by
  obtain ⟨hE, hS, hG, hO, hI, hK, hQ⟩ := h
  have e : ∀ i, i < 4 → m 67 i = -1 := by
    have k : w32 (m 67 0) = -1 ∧ w32 (m 67 1) = -1 ∧ w32 (m 67 2) = -1 ∧ w32 (m 67 3) = -1 := by
      unfold ins at hi
      repeat' split at hi
      all_goals first | omega | exact ⟨by assumption, by assumption, by assumption, by assumption⟩
    have w : ∀ i, i < 4 → w32 (m 67 i) = m 67 i := fun i h4 => by
      have q := (hI.1 i h4).1
      have o := hO.2.2.1
      exact w32_id (by omega) (by omega)
    rw [w 0 (by decide), w 1 (by decide), w 2 (by decide), w 3 (by decide)] at k
    intro i h4
    rcases (show i = 0 ∨ i = 1 ∨ i = 2 ∨ i = 3 by omega) with rfl | rfl | rfl | rfl
    · exact k.1
    · exact k.2.1
    · exact k.2.2.1
    · exact k.2.2.2
  unfold RP pE pS pG pO pI pK pQ sdsM at *
  simp (disch := decide) only [up_n, up_y, g_up_ne]
  exact ⟨⟨hE.1, hE.2.1, hE.2.2.1, hE.2.2.2.1, hE.2.2.2.2.1, trivial, hE.2.2.2.2.2.2⟩, hS, ⟨hG.1, hG.2.1, hG.2.2.1, hG.2.2.2.1, hG.2.2.2.2.1, Or.inl trivial, hG.2.2.2.2.2.2⟩, hO, hI, fun i h4 => ⟨Or.inr (Or.inl (e i h4)), (hK i h4).2⟩, hQ⟩
def bo (f g : gS → gA) (n : Int) (c m : gS) : Prop := ∃ c' m' : gS, f c = some (0, c') ∧ g m = some (0, m') ∧ RP n c' m' ∧ fC pcC c c' ∧ fM pcT m m'
theorem stay_both {l : Int} (h : RP n c m) (hl : m 49 46 = l) : bo Machine_pass_99 (M_tickOnce_159 l) n c m := by
  have hG := h.2.2.1
  rcases hG.2.2.2.2.1 with ho | ho
  · rcases hG.2.2.2.2.2.1 with hj | hj
    · rw [ho] at hl
      subst hl
      exact go_both h ho hj
    · exact still_both h (Or.inr ⟨hl ▸ ho, hj⟩) hl
  · exact still_both h (Or.inl (hl ▸ ho)) hl
theorem mid_both {t : Int} (h : RP n c m) (h0 : 0 ≤ t) (h1 : t ≤ 100) : bo (Machine_pass_63 t) (M_tickOnce_89 (m 49 46) t) n c m := by
  have k := RP_heat h h0 h1
  have fc : fC pcC c (g_up c 40 6 t) := fC_up rfl
  have fm : fM pcT m (g_up m 49 41 t) := fM_up rfl
  have hl : g_up m 49 41 t 49 46 = m 49 46 := up_n (by decide)
  revert k fc fm hl
  generalize e1 : g_up c 40 6 t = c1
  generalize e2 : g_up m 49 41 t = m1
  intro k fc fm hl
  have hE := k.1
  have hG := k.2.2.1
  obtain ⟨cS, mS, p1, p2, p3, p4, p5⟩ := stay_both k hl
  rw [← hl]
  unfold bo Machine_pass_63 M_tickOnce_89
  rw [e1, e2, g_le_s, g_le_s, hE.2.2.1, hE.2.2.2.2.2.1]
  rw [← hl] at p2
  rcases hG.2.2.2.2.1 with ho | ho
  · rw [ho, if_pos (by decide)]
    rw [ho] at p2
    rcases hG.2.2.2.2.2.1 with hj | hj
    · rw [hj, if_pos (by decide), if_pos (by decide), if_pos (by decide)]
      exact ⟨cS, mS, p1, p2, p3, fC_tr fc p4, fM_tr fm p5⟩
    · rw [hj, if_neg (by decide), insC, g_bi_s, anyC, g_bi_s, if_pos (show w32 0 = 0 by decide), if_neg (show ¬ w32 1 = 0 by decide), insM, g_bi_s, RP_ins k, stk_congr (fun i hi => ((k.2.1 i hi).2.2.1 : c1 43 i = m1 71 i)), w32_01 (stk_01 _), ins_w]
      have hi := ins_lo (m1 67)
      have es : g_up m1 49 47 1 = m1 := by
        conv => lhs; rw [← hj]
        exact g_up_self m1 49 47
      by_cases hz : ins (m1 67) = 0
      · rw [if_pos hz, if_pos (show ins (m1 67) ≤ 0 by omega), anyM _ (Or.inl rfl)]
        by_cases hs : stk (m1 71) = 0
        · rw [if_pos hs, if_pos ⟨rfl, hs⟩]
          unfold M_tickOnce_154
          rw [if_pos (by decide), g_le_s, g_le_s]
          have k2 := RP_free k hz
          obtain ⟨cT, mT, q1, q2, q3, q4, q5⟩ := stay_both (l := 0) k2 ((up_n (by decide)).trans ho)
          exact ⟨cT, mT, q1, q2, q3, fC_tr fc (fC_tr (fC_up rfl) q4), fM_tr fm (fM_tr (fM_up rfl) q5)⟩
        · rw [if_neg hs, if_neg (by omega)]
          unfold M_tickOnce_154
          rw [if_pos (by decide), g_le_s, es]
          exact ⟨cS, mS, p1, p2, p3, fC_tr fc p4, fM_tr fm p5⟩
      · rw [if_neg hz, if_neg (show ¬ ins (m1 67) ≤ 0 by omega), anyM _ (Or.inr rfl), if_neg (by omega)]
        unfold M_tickOnce_154
        rw [if_pos (by decide), g_le_s, es]
        exact ⟨cS, mS, p1, p2, p3, fC_tr fc p4, fM_tr fm p5⟩
  · rw [ho, if_neg (by decide), if_neg (by decide)]
    rw [ho] at p2
    exact ⟨cS, mS, p1, p2, p3, fC_tr fc p4, fM_tr fm p5⟩
theorem pass_both (h : RP n c m) : bo Machine_pass M_tickOnce n c m := by
  have k := RP_ticks h
  have fc : fC pcC c (g_up c 40 9 (c 40 9 + 1)) := fC_up rfl
  have fm : fM pcT m (g_up m 49 42 (m 49 42 + 1)) := fM_up rfl
  revert k fc fm
  generalize e1 : g_up c 40 9 (c 40 9 + 1) = c1
  generalize e2 : g_up m 49 42 (m 49 42 + 1) = m1
  intro k fc fm
  have hE := k.1
  have hG := k.2.2.1
  have hO := k.2.2.2.1
  have g0 := hG.1
  have g1 := hG.2.1
  have o0 := hO.1
  have o1 := hO.2.1
  have o2 := hO.2.2.1
  have fin : ∀ {t : Int}, 0 ≤ t → t ≤ 100 → ∃ c' m' : gS, Machine_pass_63 t c1 = some (0, c') ∧ M_tickOnce_89 (m1 49 46) t m1 = some (0, m') ∧ RP n c' m' ∧ fC pcC c c' ∧ fM pcT m m' := fun t0 t1 => by
    obtain ⟨c', m', q1, q2, q3, q4, q5⟩ := mid_both k t0 t1
    exact ⟨c', m', q1, q2, q3, fC_tr fc q4, fM_tr fm q5⟩
  have cool : ∃ c' m' : gS, Machine_pass_31 c1 = some (0, c') ∧ M_tickOnce_71 (m1 49 46) m1 = some (0, m') ∧ RP n c' m' ∧ fC pcC c c' ∧ fM pcT m m' := by
    unfold Machine_pass_31 Machine_pass_32 M_tickOnce_71 Math_max
    rw [if_pos (by decide), hE.1, w_0, w32_id (z := m1 49 41 - 5) (by omega) (by omega), w32_id (z := m1 49 41) (by omega) (by omega)]
    by_cases q : 5 ≤ m1 49 41
    · rw [if_pos q]
      by_cases q2 : 0 < m1 49 41 - 5
      · rw [if_pos q2, g_bi_s]
        exact fin (by omega) (by omega)
      · rw [if_neg q2, g_bi_s, show m1 49 41 - 5 = 0 by omega]
        exact fin (by omega) (by omega)
    · rw [if_neg q, if_neg (by omega), g_bi_s]
      exact fin (by omega) (by omega)
  unfold bo Machine_pass M_tickOnce M_tickOnce_31 Order_left
  rw [e1, e2, g_le_s, g_le_s, g_le_s, g_bi_s, hE.2.2.1, hE.2.2.2.2.2.2.1, hE.2.2.2.2.2.2.2.1, w32_id (z := m1 49 44 - m1 49 45) (by omega) (by omega), w32_id (z := m1 49 45) (by omega) (by omega), w32_id (z := m1 49 44) (by omega) (by omega)]
  rcases hG.2.2.2.2.1 with ho | ho
  · rw [ho] at cool fin ⊢
    rw [if_pos (by decide)]
    by_cases q : m1 49 44 ≤ m1 49 45
    · rw [if_pos (by omega), if_pos q, if_pos (by decide), if_pos (by decide)]
      exact cool
    · rw [if_neg (by omega), if_neg q, if_pos (by decide), if_neg (by decide)]
      unfold Machine_pass_32 Math_min1
      rw [if_neg (by decide), hE.1, w32_id (z := m1 49 41 + 10) (by omega) (by omega), w32_id (z := 100) (by omega) (by omega)]
      by_cases q2 : m1 49 41 + 10 ≤ 100
      · rw [if_pos q2]
        by_cases q3 : m1 49 41 + 10 < 100
        · rw [if_pos q3, g_bi_s]
          exact fin (by omega) (by omega)
        · rw [if_neg q3, g_bi_s, show m1 49 41 + 10 = 100 by omega]
          exact fin (by omega) (by omega)
      · rw [if_neg q2, if_neg (by omega), g_bi_s]
        exact fin (by omega) (by omega)
  · rw [ho] at cool ⊢
    rw [if_neg (by decide)]
    by_cases q : m1 49 44 ≤ m1 49 45
    · rw [if_pos q, if_neg (by decide)]
      exact cool
    · rw [if_neg q, if_neg (by decide)]
      exact cool
end TK2
theorem ticks_both {n : Int} {a : Int} : ∀ (d l N : Nat) (c m : gS), RP n c m → (l : Int) + d = a → a ≤ 1000 → ∃ (z : Int) (c' m' : gS), B_tick_22L (N + d + 1) a l c = some (0, z, c') ∧ M_tick_32L (N + d + 1) a l m = some (z, m') ∧ RP n c' m' ∧ fC pcC c c' ∧ fM pcT m m' := by
  intro d
  induction d with
  | zero =>
    intro l N c m h hl ha
    obtain ⟨z, k1, k2⟩ := op_state h
    refine ⟨z, c, m, ?_, ?_, h, fC_rf _ _, fM_rf _ _⟩
    · show B_tick_22 _ a l c = _
      unfold B_tick_22
      rw [w_nat (by omega), w32_id (z := a) (by omega) (by omega), if_pos (by omega), k1, g_bi_s]
    · show M_tick_32 _ a l m = _
      unfold M_tick_32
      rw [w_nat (by omega), w32_id (z := a) (by omega) (by omega), if_pos (by omega), k2, g_bi_s]
  | succ d ih =>
    intro l N c m h hl ha
    obtain ⟨c1, m1, q1, q2, q3, q4, q5⟩ := pass_both h
    obtain ⟨z, c2, m2, r1, r2, r3, r4, r5⟩ := ih (l + 1) N c1 m1 q3 (by omega) ha
    refine ⟨z, c2, m2, ?_, ?_, r3, fC_tr q4 r4, fM_tr q5 r5⟩
    · show B_tick_22 (B_tick_22L (N + d + 1)) a l c = _
      unfold B_tick_22
      rw [w_nat (by omega), w32_id (z := a) (by omega) (by omega), if_neg (by omega), q1, g_bi_s]
      exact r1
    · show M_tick_32 (M_tick_32L (N + d + 1)) a l m = _
      unfold M_tick_32
      rw [w_nat (by omega), w32_id (z := a) (by omega) (by omega), if_neg (by omega), q2, g_bi_s]
      exact r2

theorem op_tick {n : Int} {c m : gS} {a : Int} (ha : w32 a = a) (h : RP n c m) : ∃ (t z : Int) (c' m' : gS), B_tick a c = some (t, z, c') ∧ M_tick a m = some (z, m') ∧ ((t = 0 ∧ m' 49 0 = 0) ∨ (t = 2 ∧ z = 0 ∧ m' 49 0 = 1)) ∧ RP n c' m' ∧ fC pcC c c' ∧ fM pcM m m' := by
  unfold B_tick M_tick B_tick_12 M_tick_13 M_tick_18
  rw [ha]
  by_cases h1 : a < 1
  · rw [if_pos h1, if_pos h1, g_le_s, up_y, if_neg (by decide)]
    exact ⟨2, 0, c, _, rfl, rfl, Or.inr ⟨rfl, rfl, up_y⟩, RP_code h, fC_rf _ _, fM_code⟩
  by_cases h2 : a ≤ 1000
  · rw [if_neg h1, if_neg h1, if_pos h2, if_pos h2, g_le_s, up_y, if_pos (by decide)]
    obtain ⟨z, c', m', k1, k2, k3, k4, k5⟩ := ticks_both (n := n) (a := a) a.toNat 0 (1000000000000 - a.toNat - 1) c (g_up m 49 0 0) (RP_code h) (by omega) h2
    rw [show 1000000000000 - a.toNat - 1 + a.toNat + 1 = gFu by show _ = 1000000000000; omega] at k1 k2
    exact ⟨0, z, c', m', k1, k2, Or.inl ⟨rfl, (k5 49 0 rfl).trans up_y⟩, k3, k4, fM_tr fM_code (pcT_M k5)⟩
  · rw [if_neg h1, if_neg h1, if_neg h2, if_neg h2, g_le_s, up_y, if_neg (by decide)]
    exact ⟨2, 0, c, _, rfl, rfl, Or.inr ⟨rfl, rfl, up_y⟩, RP_code h, fC_rf _ _, fM_code⟩

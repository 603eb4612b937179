/-! what goes beyond; all errors -/
def okF (w : Int) (n : Nat) (m : gS) : Prop := (w = 43 ∨ w = 45 ∨ w = 42 → -1000000 ≤ res w (m 52 (n - 2)) (m 52 (n - 1)) ∧ res w (m 52 (n - 2)) (m 52 (n - 1)) ≤ 1000000) ∧ (w = 77 ∨ w = 76 ∨ w = 84 → nr m n 0) ∧ (w = 67 → nr m n 0 ∧ nr m n 2 ∧ nr m n 4) ∧ (w = 83 → (-4096 ≤ m 62 0 * m 52 (n - 1 - 1) / 16 ∧ m 62 0 * m 52 (n - 1 - 1) / 16 ≤ 4096) ∧ -4096 ≤ m 62 1 * m 52 (n - 1 - 0) / 16 ∧ m 62 1 * m 52 (n - 1 - 0) / 16 ≤ 4096) ∧ (w = 71 → 0 ≤ m 52 (n - 1 - 0) ∧ m 52 (n - 1 - 0) ≤ 16)
section EF
variable {L n l s k D : Nat} {c m : gS} {w : Int}
theorem m189_of {t : Int} (hw : w32 w = w) (h83 : w ≠ 83) (h71 : w ≠ 71) : M_errorOf_101 w t m = M_errorOf_189 w t m := by
  unfold M_errorOf_101 M_errorOf_159
  rw [hw, if_neg h83, if_neg h71]
theorem m63_of {t e : Int} (hw : w32 w = w) (h1 : w ≠ 77) (h2 : w ≠ 76) (h3 : w ≠ 67) (h4 : w ≠ 84) (h83 : w ≠ 83) (h71 : w ≠ 71) : M_errorOf_63 w e t m = M_errorOf_189 w t m := by
  unfold M_errorOf_63
  rw [hw, if_neg h1, if_neg h2, if_neg h3, if_neg h4, m189_of hw h83 h71]
theorem far_num (hv : JV L n c m) (hm : JM l c m) (hn : nd w ≤ n) (hk : ∀ j : Nat, (j : Int) < nd w → m 54 (n - 1 - j) = 0) (h : w = 43 ∨ w = 45 ∨ w = 42) : ∃ b : Int, (b = 0 ∨ b = 1) ∧ Job_goesBeyond w c = some (b, c) ∧ M_errorOf_52 w (nd w) m = M_errorOf_189 w b m ∧ (b = 0 → -1000000 ≤ res w (m 52 (n - 2)) (m 52 (n - 1)) ∧ res w (m 52 (n - 2)) (m 52 (n - 1)) ≤ 1000000) := by
  obtain ⟨v0, v1, v2, v3, v4⟩ := id hv
  have hd : nd w = 2 := by rcases h with rfl | rfl | rfl <;> decide
  have hw : w32 w = w := by rcases h with rfl | rfl | rfl <;> decide
  have ka := hk 1 (by omega)
  have kb := hk 0 (by omega)
  rw [show n - 1 - 1 = n - 2 by omega] at ka
  rw [show n - 1 - 0 = n - 1 by omega] at kb
  have h2n : 2 ≤ n := by omega
  obtain ⟨va, a0, a1⟩ := (v4 (n - 2) (by omega)).num ka
  obtain ⟨vb, b0, b1⟩ := (v4 (n - 1) (by omega)).num kb
  obtain ⟨a, ea⟩ : ∃ a, a = m 52 (n - 2) := ⟨_, rfl⟩
  obtain ⟨b, eb⟩ : ∃ b, b = m 52 (n - 1) := ⟨_, rfl⟩
  rw [← ea] at va a0 a1 ⊢
  rw [← eb] at vb b0 b1 ⊢
  have rC := resC (w := w) v2 v1 h2n va vb a0 a1 b0 b1 (by rcases h with rfl | rfl | rfl <;> decide) (fun x => by omega)
  have rM := resM (w := w) v3 v1 h2n ea.symm eb.symm a0 a1 b0 b1 (by omega)
  have bd : -1000000000000 ≤ res w a b ∧ res w a b ≤ 1000000000000 := by
    have mb := mul_bd (A := 1000000) (B := 1000000) (C := 1000000000000) (by omega) (by omega) (by omega) (by omega) rfl (x := a) (y := b)
    rcases h with rfl | rfl | rfl <;> simp (decide := true) only [res, if_true, if_false] <;> omega
  have e84 : Job_goesBeyond w c = Job_goesBeyond_84 w c := by
    unfold Job_goesBeyond
    rcases h with rfl | rfl | rfl <;> simp (decide := true) only [if_true, if_false]
  have eM : M_errorOf_52 w (nd w) m = M_errorOf_63 w (nd w) (if ((res w a b).natAbs : Int) ≤ 1000000 then 0 else 1) m := by
    unfold M_errorOf_52
    rw [rM, g_bi_s, far_is m bd.1 bd.2 (by decide) (by decide), g_bi_s]
  rw [e84, eM, m63_of hw (by omega) (by omega) (by omega) (by omega) (by omega) (by omega)]
  unfold Job_goesBeyond_84
  rw [rC, g_bi_s, abs_is c bd.1 bd.2, g_bi_s, l_cmp_s (w64_id (by omega) (by omega)) (by decide)]
  by_cases q : ((res w a b).natAbs : Int) ≤ 1000000
  · rw [if_pos (by rw [if_neg (by omega)]; split <;> decide), if_pos q]
    exact ⟨0, Or.inl rfl, rfl, rfl, fun _ => ⟨by omega, by omega⟩⟩
  · rw [if_neg (by rw [if_pos (by omega)]; decide), if_neg q]
    exact ⟨1, Or.inr rfl, rfl, rfl, fun x => by cases x⟩
theorem far_div (hv : JV L n c m) (hn : nd w ≤ n) (hk : ∀ j : Nat, (j : Int) < nd w → m 54 (n - 1 - j) = 0) (h : w = 47) : Job_goesBeyond w c = some (0, c) ∧ M_errorOf_52 w (nd w) m = M_errorOf_189 w 0 m := by
  subst h
  obtain ⟨v0, v1, v2, v3, v4⟩ := id hv
  have hd : nd 47 = 2 := by decide
  have ka := hk 1 (by omega)
  have kb := hk 0 (by omega)
  rw [show n - 1 - 1 = n - 2 by omega] at ka
  rw [show n - 1 - 0 = n - 1 by omega] at kb
  have h2n : 2 ≤ n := by omega
  obtain ⟨va, a0, a1⟩ := (v4 (n - 2) (by omega)).num ka
  obtain ⟨vb, b0, b1⟩ := (v4 (n - 1) (by omega)).num kb
  constructor
  · unfold Job_goesBeyond
    simp (decide := true) only [if_true, if_false]
  · have rM : ∃ r : Int, M_result 47 m = some (r, m) ∧ -1000000 ≤ r ∧ r ≤ 1000000 := by
      by_cases z : m 52 (n - 1) = 0
      · refine ⟨0, ?_, by decide, by decide⟩
        have p1 := num_in v3 v1 1 1 rfl (by omega)
        have p0 := num_in v3 v1 0 0 rfl (by omega)
        rw [show n - 1 - 0 = n - 1 by omega, z] at p0
        unfold M_result
        rw [p1, g_bi_s, g_le_s, p0, g_bi_s, g_le_s]
        simp (decide := true) only [if_true, if_false]
        unfold M_quotient
        rw [p0, g_bi_s, if_pos (by decide), g_bi_s]
        rfl
      · refine ⟨_, resM (w := 47) v3 v1 h2n rfl rfl a0 a1 b0 b1 (Or.inr (Or.inr (Or.inr ⟨rfl, z⟩))), ?_⟩
        have t := tdiv_lo (x := m 52 (n - 2)) (y := m 52 (n - 1)) (B := 1000000) (by omega) (by omega)
        simp (decide := true) only [if_false, if_true, res]
        omega
    obtain ⟨r, r1, r2, r3⟩ := rM
    unfold M_errorOf_52
    rw [r1, g_bi_s, far_is m (by omega) (by omega) (by decide) (by decide), g_bi_s, if_pos (by omega), m63_of (by decide) (by decide) (by decide) (by decide) (by decide) (by decide) (by decide)]
theorem far_pl (hv : JV L n c m) (hm : JM l c m) (hn : nd w ≤ n) (hk : ∀ j : Nat, (j : Int) < nd w → m 54 (n - 1 - j) = 0) (h : w = 77 ∨ w = 76 ∨ w = 84) : ∃ b : Int, (b = 0 ∨ b = 1) ∧ Job_goesBeyond w c = some (b, c) ∧ M_errorOf_63 w (nd w) 0 m = M_errorOf_189 w b m ∧ (b = 0 → nr m n 0) := by
  have hd : nd w = 2 := by rcases h with rfl | rfl | rfl <;> decide
  have hw : w32 w = w := by rcases h with rfl | rfl | rfl <;> decide
  obtain ⟨b, b0, b1, b2, b3⟩ := farC hv hm (k := 0) (by omega) (hk 0 (by omega)) (hk 1 (by omega)) 1 rfl
  have eN : M_isNear 2 m = some (1 - b, m) := by
    unfold M_isNear
    rw [show gFu = 999999999998 + 1 + 1 from rfl]
    show M_isNear_4 (M_isNear_4 (M_isNear_4L 999999999998)) ((2 : Nat) : Int) 1 ((0 : Nat) : Int) m = _
    rw [b3 _ 2 (by decide) (by decide)]
    exact near_e (e := 2) (by omega)
  have eM : M_errorOf_63 w (nd w) 0 m = M_errorOf_189 w b m := by
    have e87 : M_errorOf_87 w 2 m = M_errorOf_189 w b m := by
      unfold M_errorOf_87 M_errorOf_100
      rw [eN, g_bi_s, m189_of hw (by omega) (by omega), m189_of hw (by omega) (by omega)]
      rcases b0 with rfl | rfl
      · rw [if_neg (by decide)]
      · rw [if_pos (by decide)]
    unfold M_errorOf_63
    rw [hd, e87]
    rcases h with rfl | rfl | rfl <;> simp (decide := true) only [if_true, if_false]
  refine ⟨b, b0, ?_, eM, b2⟩
  unfold Job_goesBeyond Job_goesBeyond_105
  rcases h with rfl | rfl | rfl <;> simp (decide := true) only [if_true, if_false] <;> rw [b1, g_bi_s, if_pos (by rw [w32_01 b0]; exact b0)]
theorem far_C (hv : JV L n c m) (hm : JM l c m) (hn : nd w ≤ n) (hk : ∀ j : Nat, (j : Int) < nd w → m 54 (n - 1 - j) = 0) (h : w = 67) : ∃ b : Int, (b = 0 ∨ b = 1) ∧ Job_goesBeyond w c = some (b, c) ∧ M_errorOf_63 w (nd w) 0 m = M_errorOf_189 w b m ∧ (b = 0 → nr m n 0 ∧ nr m n 2 ∧ nr m n 4) := by
  subst h
  have hd : nd 67 = 6 := by decide
  obtain ⟨x, x0, x1, x2, x3⟩ := farC hv hm (k := 0) (by omega) (hk 0 (by omega)) (hk 1 (by omega)) 1 rfl
  obtain ⟨y, y0, y1, y2, y3⟩ := farC hv hm (k := 2) (by omega) (hk 2 (by omega)) (hk 3 (by omega)) 3 rfl
  obtain ⟨z, z0, z1, z2, z3⟩ := farC hv hm (k := 4) (by omega) (hk 4 (by omega)) (hk 5 (by omega)) 5 rfl
  have eC : Job_goesBeyond 67 c = some (if z = 0 ∧ y = 0 ∧ x = 0 then 0 else 1, c) := by
    unfold Job_goesBeyond
    simp (decide := true) only [if_true, if_false]
    rw [z1, g_bi_s, y1, g_bi_s, x1, g_bi_s, w32_01 z0, w32_01 y0, w32_01 x0]
    by_cases a : z = 0
    · rw [if_pos a]
      by_cases b : y = 0
      · rw [if_pos b]
        by_cases d : x = 0
        · rw [if_pos d, if_pos ⟨a, b, d⟩]
        · rw [if_neg d, if_neg (fun q => d q.2.2)]
      · rw [if_neg b, if_neg (fun q => b q.2.1)]
    · rw [if_neg a, if_neg (fun q => a q.1)]
  have eN : M_isNear 6 m = some (if z = 0 ∧ y = 0 ∧ x = 0 then 1 else 0, m) := by
    unfold M_isNear
    rw [show gFu = 999999999996 + 1 + 1 + 1 + 1 from rfl]
    show M_isNear_4 (M_isNear_4 (M_isNear_4 (M_isNear_4 (M_isNear_4L 999999999996)))) ((6 : Nat) : Int) 1 ((0 : Nat) : Int) m = _
    rw [x3 _ 6 (by decide) (by decide)]
    rcases x0 with rfl | rfl
    · rw [show (1 : Int) - 0 = 1 from rfl]
      show M_isNear_4 _ ((6 : Nat) : Int) 1 ((2 : Nat) : Int) m = _
      rw [y3 _ 6 (by decide) (by decide)]
      rcases y0 with rfl | rfl
      · rw [show (1 : Int) - 0 = 1 from rfl]
        show M_isNear_4 _ ((6 : Nat) : Int) 1 ((4 : Nat) : Int) m = _
        rw [z3 _ 6 (by decide) (by decide)]
        refine (near_e (e := 6) (v := 1 - z) (by omega)).trans ?_
        rcases z0 with rfl | rfl <;> simp (decide := true) only [if_true, if_false] <;> rfl
      · rw [show (1 : Int) - 1 = 0 from rfl]
        show M_isNear_4 _ ((6 : Nat) : Int) 0 ((4 : Nat) : Int) m = _
        rw [near_0 (by decide) (by decide)]
        refine (near_e (e := 6) (v := 0) (Or.inl rfl)).trans ?_
        rw [if_neg (fun q => by have := q.2.1; cases this)]
    · rw [show (1 : Int) - 1 = 0 from rfl]
      show M_isNear_4 _ ((6 : Nat) : Int) 0 ((2 : Nat) : Int) m = _
      rw [near_0 (by decide) (by decide)]
      show M_isNear_4 _ ((6 : Nat) : Int) 0 ((4 : Nat) : Int) m = _
      rw [near_0 (by decide) (by decide)]
      refine (near_e (e := 6) (v := 0) (Or.inl rfl)).trans ?_
      rw [if_neg (fun q => by have := q.2.2; cases this)]
  have eM : M_errorOf_63 67 (nd 67) 0 m = M_errorOf_189 67 (if z = 0 ∧ y = 0 ∧ x = 0 then 0 else 1) m := by
    unfold M_errorOf_63 M_errorOf_87 M_errorOf_100
    simp (decide := true) only [if_true, if_false]
    rw [hd, eN, g_bi_s, m189_of (by decide) (by decide) (by decide), m189_of (by decide) (by decide) (by decide)]
    by_cases q : z = 0 ∧ y = 0 ∧ x = 0
    · rw [if_pos q, if_pos q, if_neg (by decide)]
    · rw [if_neg q, if_neg q, if_pos (by decide)]
  rw [eC, eM]
  by_cases q : z = 0 ∧ y = 0 ∧ x = 0
  · rw [if_pos q]
    exact ⟨0, Or.inl rfl, rfl, rfl, fun _ => ⟨x2 q.2.2, y2 q.2.1, z2 q.1⟩⟩
  · rw [if_neg q]
    exact ⟨1, Or.inr rfl, rfl, rfl, fun e => by cases e⟩
theorem cmp_4096 {z : Int} (z1 : -1000000000 ≤ z) (z2 : z ≤ 1000000000) : w32 (l_cmp (z.natAbs : Int) 4096) = if (z.natAbs : Int) ≤ 4096 then (if (z.natAbs : Int) = 4096 then 0 else -1) else 1 := by
  rw [l_cmp_s (w64_id (by omega) (by omega)) (by decide)]
  by_cases q : (4096 : Int) < (z.natAbs : Int)
  · rw [if_pos q, if_neg (by omega)]
  · rw [if_neg q, if_pos (show (z.natAbs : Int) ≤ 4096 by omega)]
theorem far_S (hv : JV L n c m) (hm : JM l c m) (hn : nd w ≤ n) (hk : ∀ j : Nat, (j : Int) < nd w → m 54 (n - 1 - j) = 0) (h : w = 83) : ∃ b : Int, (b = 0 ∨ b = 1) ∧ Job_goesBeyond w c = some (b, c) ∧ M_errorOf_63 w (nd w) 0 m = M_errorOf_189 w b m ∧ (b = 0 → (-4096 ≤ m 62 0 * m 52 (n - 1 - 1) / 16 ∧ m 62 0 * m 52 (n - 1 - 1) / 16 ≤ 4096) ∧ -4096 ≤ m 62 1 * m 52 (n - 1 - 0) / 16 ∧ m 62 1 * m 52 (n - 1 - 0) / 16 ≤ 4096) := by
  subst h
  obtain ⟨v0, v1, v2, v3, v4⟩ := id hv
  obtain ⟨e0, r0⟩ := hm.2.2.2.1.1
  simp only [Nat.zero_add] at e0 r0
  have hd : nd 83 = 2 := by decide
  obtain ⟨x1, x2, x3⟩ := at_num hv (k := 1) (by omega) (hk 1 (by omega))
  obtain ⟨y1, y2, y3⟩ := at_num hv (k := 0) (by omega) (hk 0 (by omega))
  have bx := (px_bd hm x2 x3).2.2.2.2
  have by_ := (px_bd hm y2 y3).2.2.2.2.2.2
  have eC : Job_goesBeyond 83 c = if 0 < w32 (l_cmp ((m 62 0 * m 52 (n - 1 - 1) / 16).natAbs : Int) 4096) then some (1, c) else (if w32 (l_cmp ((m 62 1 * m 52 (n - 1 - 0) / 16).natAbs : Int) 4096) ≤ 0 then some (0, c) else some (1, c)) := by
    unfold Job_goesBeyond
    rw [if_neg (by decide), if_neg (by decide), if_neg (by decide), if_neg (by decide), if_neg (by decide), if_neg (by decide), if_neg (by decide), if_pos (by decide), peek_in v2 v1 1 1 rfl (by omega), g_bi_s, x1, stX hm x2 x3, g_bi_s, abs_is c (by omega) (by omega), g_bi_s, peek_in v2 v1 0 0 rfl (by omega), g_bi_s, y1, stY hm y2 y3, g_bi_s, abs_is c (by omega) (by omega), g_bi_s]
  have m158 : ∀ t : Int, M_errorOf_158 83 t m = M_errorOf_189 83 t m := by
    intro t
    unfold M_errorOf_158 M_errorOf_159
    rw [if_neg (by decide)]
  have m153 : M_errorOf_153 83 m = M_errorOf_189 83 1 m := by
    unfold M_errorOf_153
    exact m158 1
  have eM : M_errorOf_63 83 (nd 83) 0 m = (if (if ((m 62 0 * m 52 (n - 1 - 1) / 16).natAbs : Int) ≤ 4096 then (0 : Int) else 1) = 0 then (if (if ((m 62 1 * m 52 (n - 1 - 0) / 16).natAbs : Int) ≤ 4096 then (0 : Int) else 1) = 0 then M_errorOf_189 83 0 m else M_errorOf_189 83 1 m) else M_errorOf_189 83 1 m) := by
    have w01 : ∀ z : Int, w32 (if (z.natAbs : Int) ≤ 4096 then (0 : Int) else 1) = if (z.natAbs : Int) ≤ 4096 then (0 : Int) else 1 := fun z => by split <;> rfl
    unfold M_errorOf_63 M_errorOf_101
    rw [if_neg (by decide), if_neg (by decide), if_neg (by decide), if_neg (by decide), if_pos (by decide), num_in v3 v1 1 1 rfl (by omega), g_bi_s, six m (by omega) (by omega) x2 x3, g_bi_s, far_is m (by omega) (by omega) (by decide) (by decide), g_bi_s, num_in v3 v1 0 0 rfl (by omega), g_bi_s, six m (by omega) (by omega) y2 y3, g_bi_s, far_is m (by omega) (by omega) (by decide) (by decide), g_bi_s, m158, m153, w01, w01]
  rw [eC, eM, cmp_4096 bx.1 bx.2.1, cmp_4096 by_.1 by_.2]
  by_cases q1 : ((m 62 0 * m 52 (n - 1 - 1) / 16).natAbs : Int) ≤ 4096
  · rw [if_pos q1, if_pos q1, if_neg (by split <;> decide), if_pos rfl]
    by_cases q2 : ((m 62 1 * m 52 (n - 1 - 0) / 16).natAbs : Int) ≤ 4096
    · rw [if_pos q2, if_pos q2, if_pos (by split <;> decide), if_pos rfl]
      exact ⟨0, Or.inl rfl, rfl, rfl, fun _ => ⟨⟨by omega, by omega⟩, by omega, by omega⟩⟩
    · rw [if_neg q2, if_neg q2, if_neg (by decide), if_neg (by decide)]
      exact ⟨1, Or.inr rfl, rfl, rfl, fun e => by cases e⟩
  · rw [if_neg q1, if_neg q1, if_pos (by decide), if_neg (by decide)]
    exact ⟨1, Or.inr rfl, rfl, rfl, fun e => by cases e⟩
theorem far_G (hv : JV L n c m) (hn : nd w ≤ n) (hk : ∀ j : Nat, (j : Int) < nd w → m 54 (n - 1 - j) = 0) (h : w = 71) : ∃ b : Int, (b = 0 ∨ b = 1) ∧ Job_goesBeyond w c = some (b, c) ∧ M_errorOf_63 w (nd w) 0 m = M_errorOf_189 w b m ∧ (b = 0 → 0 ≤ m 52 (n - 1 - 0) ∧ m 52 (n - 1 - 0) ≤ 16) := by
  subst h
  obtain ⟨v0, v1, v2, v3, v4⟩ := id hv
  have hd : nd 71 = 1 := by decide
  obtain ⟨y1, y2, y3⟩ := at_num hv (k := 0) (by omega) (hk 0 (by omega))
  have eC : Job_goesBeyond 71 c = if m 52 (n - 1 - 0) < 0 then some (1, c) else (if m 52 (n - 1 - 0) ≤ 16 then some (0, c) else some (1, c)) := by
    unfold Job_goesBeyond
    rw [if_neg (by decide), if_neg (by decide), if_neg (by decide), if_neg (by decide), if_pos (by decide), peek_in v2 v1 0 0 rfl (by omega), g_bi_s, y1, w32_id (by omega) (by omega), peek_in v2 v1 0 0 rfl (by omega), g_bi_s, y1, w32_id (by omega) (by omega)]
  have eM : M_errorOf_63 71 (nd 71) 0 m = if m 52 (n - 1 - 0) < 0 then M_errorOf_189 71 1 m else (if m 52 (n - 1 - 0) ≤ 16 then M_errorOf_189 71 0 m else M_errorOf_189 71 1 m) := by
    unfold M_errorOf_63 M_errorOf_101 M_errorOf_159 M_errorOf_183 M_errorOf_188
    rw [if_neg (by decide), if_neg (by decide), if_neg (by decide), if_neg (by decide), if_neg (by decide), if_pos (by decide), num_in v3 v1 0 0 rfl (by omega), g_bi_s, w32_id (by omega) (by omega), num_in v3 v1 0 0 rfl (by omega), g_bi_s, w32_id (by omega) (by omega)]
  rw [eC, eM]
  by_cases q1 : m 52 (n - 1 - 0) < 0
  · rw [if_pos q1, if_pos q1]
    exact ⟨1, Or.inr rfl, rfl, rfl, fun e => by cases e⟩
  · rw [if_neg q1, if_neg q1]
    by_cases q2 : m 52 (n - 1 - 0) ≤ 16
    · rw [if_pos q2, if_pos q2]
      exact ⟨0, Or.inl rfl, rfl, rfl, fun _ => ⟨by omega, q2⟩⟩
    · rw [if_neg q2, if_neg q2]
      exact ⟨1, Or.inr rfl, rfl, rfl, fun e => by cases e⟩
end EF

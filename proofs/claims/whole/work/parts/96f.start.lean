/-! start -/
theorem up_cell {x y : gS} {q k : Nat} {v : Int} (h : x q = y q) : g_up x q k v q = g_up y q k v q := by
  funext j
  rw [g_up_at, g_up_at, h]
section SB
variable {L : Nat} {n : Int} {c m c' m' : gS}
/-- the class begins a job -/
theorem beginC (h1 : c 1 3 = L) (hf : ∀ j, j < L → c 2 j = m 50 j) (g : GT (m 50) L) (hm51 : ∀ j, j < L → m' 51 j = m 50 j) (hm4 : m' 49 4 = L) {nv : Nat} (hv : c 18 1 = nv) (hnv : nv ≤ 32) {a : Int} : ∃ c', Job_begin a c = some (0, c') ∧ JS L c' m' ∧ (skp (m' 51) L 0 < L → c' 10 4 = 0 ∧ c' 11 0 = (skp (m' 51) L 0 : Int) ∧ c' 12 0 = 0 ∧ c' 13 0 = L ∧ c' 14 0 = 0) ∧ (¬ skp (m' 51) L 0 < L → c' 10 4 = -1) ∧ c' 18 1 = 0 ∧ (∀ j, j < 26 → c' 20 j = 0) ∧ (c' 21 6 = 0 ∧ c' 22 0 = 16 ∧ c' 23 0 = 16 ∧ c' 24 0 = 0 ∧ c' 25 0 = 0 ∧ c' 26 0 = 16) ∧ (∀ j, j < 240 → c' 27 j = -1) ∧ (c' 28 5 = 0 ∧ c' 28 7 = 0) ∧ (c' 34 2 = 0 ∧ c' 34 3 = 0 ∧ ∀ j, j < 48 → c' 36 j = 0) ∧ (c' 5 8 = 1 ∧ c' 5 9 = 0 ∧ c' 5 10 = 0 ∧ c' 5 11 = 0 ∧ c' 5 12 = a) ∧ c' 17 = c 17 ∧ fC (fun q => decide (5 ≤ q) && decide (q ≤ 36)) c c' := by
  obtain ⟨c1, t1, t2, t3, t4, t5⟩ := text_copy h1 hf g
  have hs1 : JS L c1 m' := ⟨t2, hm4, GT_congr (fun j hj => (hm51 j hj).symm) g, fun i hi => by rw [t3 i hi, hm51 i hi], fun j q b hq => t4 j q (brc_tr (fun j hj => (hm51 j hj).symm) hq b) hq⟩
  obtain ⟨c2, u1, u2, u3, u4⟩ := calls_begin hs1
  have hs2 : JS L c2 m' := JS_congr (by rw [u4 6 rfl]) (u4 7 rfl) (u4 8 rfl) rfl rfl hs1
  have d3 : Values_drop 32 c2 = some (0, g_up c2 18 1 0) := by
    unfold Values_drop Math_max
    have e : c2 18 1 = nv := by rw [u4 18 rfl, t5 18 rfl]; exact hv
    rw [e, w32_id (z := (nv : Int) - 32) (by omega) (by omega), show w32 0 = 0 from rfl, if_neg (by omega), g_bi_s, g_le_s]
  obtain ⟨c4, v1, v2, v3, v4⟩ := f20 26 0 (1000000000000 - 27) (g_up c2 18 1 0) (by omega)
  rw [show 1000000000000 - 27 + 26 + 1 = gFu from rfl, show ((0 : Nat) : Int) = 0 from rfl] at v1
  obtain ⟨c5, w1, w2, w3, w4⟩ := f27 240 0 (1000000000000 - 241) (g_up (g_up (g_up (g_up (g_up (g_up c4 21 6 0) 22 0 16) 23 0 16) 24 0 0) 25 0 0) 26 0 16) (by omega)
  rw [show 1000000000000 - 241 + 240 + 1 = gFu from rfl, show ((0 : Nat) : Int) = 0 from rfl] at w1
  obtain ⟨c7, x1, x2, x3, x4⟩ := clean_is (g_up (g_up (g_up (g_up c5 28 5 0) 28 6 0) 28 7 0) 34 2 0)
  obtain ⟨c8, hc8⟩ : ∃ x, x = g_up (g_up (g_up (g_up (g_up c7 5 8 1) 5 9 0) 5 10 0) 5 11 0) 5 12 a := ⟨_, rfl⟩
  have q7 : ∀ q, q ≠ 5 → c8 q = c7 q := fun q hq => by rw [hc8, g_up_ne hq, g_up_ne hq, g_up_ne hq, g_up_ne hq, g_up_ne hq]
  have q5 : ∀ q, q ≠ 5 → q ≠ 28 → q ≠ 34 → q ≠ 36 → c8 q = c5 q := fun q a1 a2 a3 a4 => by rw [q7 q a1, x4 q a4 a3, g_up_ne a3, g_up_ne a2, g_up_ne a2, g_up_ne a2]
  have q4 : ∀ q, q ≠ 5 → q ≠ 28 → q ≠ 34 → q ≠ 36 → (q < 21 ∨ 27 < q) → c8 q = c4 q := fun q a1 a2 a3 a4 a5 => by rw [q5 q a1 a2 a3 a4, w4 q (by omega), g_up_ne (by omega), g_up_ne (by omega), g_up_ne (by omega), g_up_ne (by omega), g_up_ne (by omega), g_up_ne (by omega)]
  have q2 : ∀ q, q ≠ 5 → q ≠ 18 → q ≠ 20 → q ≠ 28 → q ≠ 34 → q ≠ 36 → (q < 21 ∨ 27 < q) → c8 q = c2 q := fun q a1 a6 a7 a2 a3 a4 a5 => by rw [q4 q a1 a2 a3 a4 a5, v4 q a7, g_up_ne a6]
  refine ⟨c8, ?_, JS_congr (by rw [q2 6 (by decide) (by decide) (by decide) (by decide) (by decide) (by decide) (by decide)]) (q2 7 (by decide) (by decide) (by decide) (by decide) (by decide) (by decide) (by decide)) (q2 8 (by decide) (by decide) (by decide) (by decide) (by decide) (by decide) (by decide)) rfl rfl hs2, ?_, ?_, ?_, fun j hj => ?_, ?_, fun j hj => ?_, ?_, ⟨?_, ?_, fun j hj => ?_⟩, ?_, ?_, fun q hq => ?_⟩
  · unfold Job_begin Arrays_fill1 Settings_reset Arrays_fill_b Pages_clear Path_clear
    rw [t1, g_bi_s, u1, g_bi_s, d3, g_bi_s, v1, g_bi_s, g_le_s, g_le_s, g_le_s, g_le_s, g_le_s, g_le_s, w1, g_bi_s, g_bi_s, g_le_s, g_le_s, g_le_s, g_bi_s, g_le_s, x1, g_bi_s, g_bi_s, g_le_s, g_le_s, g_le_s, g_le_s, g_le_s, ← hc8]
  · rw [q2 10 (by decide) (by decide) (by decide) (by decide) (by decide) (by decide) (by decide), q2 11 (by decide) (by decide) (by decide) (by decide) (by decide) (by decide) (by decide), q2 12 (by decide) (by decide) (by decide) (by decide) (by decide) (by decide) (by decide), q2 13 (by decide) (by decide) (by decide) (by decide) (by decide) (by decide) (by decide), q2 14 (by decide) (by decide) (by decide) (by decide) (by decide) (by decide) (by decide)]
    exact u2
  · rw [q2 10 (by decide) (by decide) (by decide) (by decide) (by decide) (by decide) (by decide)]
    exact u3
  · rw [q4 18 (by decide) (by decide) (by decide) (by decide) (by decide), v4 18 (by decide), up_y]
  · rw [q4 20 (by decide) (by decide) (by decide) (by decide) (by decide)]
    exact v2 j (by omega) hj
  · rw [q5 21 (by decide) (by decide) (by decide) (by decide), q5 22 (by decide) (by decide) (by decide) (by decide), q5 23 (by decide) (by decide) (by decide) (by decide), q5 24 (by decide) (by decide) (by decide) (by decide), q5 25 (by decide) (by decide) (by decide) (by decide), q5 26 (by decide) (by decide) (by decide) (by decide), w4 21 (by decide), w4 22 (by decide), w4 23 (by decide), w4 24 (by decide), w4 25 (by decide), w4 26 (by decide)]
    simp (disch := decide) only [g_up_ne, up_y]
    exact ⟨trivial, trivial, trivial, trivial, trivial, trivial⟩
  · rw [q5 27 (by decide) (by decide) (by decide) (by decide)]
    exact w2 j (by omega) hj
  · rw [q7 28 (by decide), x4 28 (by decide) (by decide)]
    simp (disch := decide) only [g_up_ne, up_y, up_n]
    exact ⟨trivial, trivial⟩
  · rw [q7 34 (by decide), x3, up_n (by decide), up_y]
  · rw [q7 34 (by decide), x3, up_y]
  · rw [q7 36 (by decide)]
    exact x2 j hj
  · rw [hc8]
    simp (disch := decide) only [up_y, up_n]
    exact ⟨trivial, trivial, trivial, trivial, trivial⟩
  · rw [q2 17 (by decide) (by decide) (by decide) (by decide) (by decide) (by decide) (by decide), u4 17 rfl, t5 17 rfl]
  · have hq' : ¬ (5 ≤ q ∧ q ≤ 36) := by
      intro y
      have hq : (decide (5 ≤ q) && decide (q ≤ 36)) = false := hq
      rw [decide_eq_true y.1, decide_eq_true y.2] at hq
      cases hq
    rw [q2 q (by omega) (by omega) (by omega) (by omega) (by omega) (by omega) (by omega), u4 q (by unfold nC; simp only [Bool.and_eq_false_iff, decide_eq_false_iff_not]; omega), t5 q (by unfold sC; simp only [Bool.and_eq_false_iff, decide_eq_false_iff_not]; omega)]
/-- the model begins a job -/
theorem beginM {x : gS} (hL : x 49 4 = L) (hL3 : L ≤ 300) {a1 a2 a3 : Int} (h2 : a2 = 0 ∨ a2 = 1) : ∃ m', M_start_86L M_start_115 gFu a1 a2 a3 0 x = some (0, m') ∧ (∀ i, i < L → m' 51 i = x 50 i) ∧ m' 49 = g_up (g_up (g_up (g_up (g_up (g_up (g_up (g_up (g_up (g_up (g_up (g_up (g_up (g_up (g_up (g_up (g_up (g_up x 49 11 a1) 49 12 a2) 49 10 a3) 49 5 1) 49 6 0) 49 7 0) 49 8 0) 49 9 0) 49 13 0) 49 32 0) 49 36 0) 49 44 0) 49 45 0) 49 22 0) 49 27 0) 49 28 0) 49 17 0) 49 17 (0 + 1) 49 ∧ (∀ j, j < 26 → m' 53 j = 0) ∧ (m' 55 0 = 0 ∧ m' 57 0 = 0 ∧ m' 56 0 = L ∧ m' 58 0 = -1) ∧ (m' 62 0 = 16 ∧ m' 62 1 = 16 ∧ m' 62 2 = 0 ∧ m' 62 3 = 0 ∧ m' 62 4 = 16) ∧ (∀ j, j < 3072 → m' 63 j = 1 ∧ m' 64 (24576 + j) = 0) ∧ ∀ q, q ≠ 49 → (q < 51 ∨ 65 ≤ q) → m' q = x q := by
  obtain ⟨mb, b1, b2, b3, b4⟩ := f51 (K := M_start_115) (a1 := a1) (a2 := a2) (a3 := a3) hL3 L 0 (1000000000000 - L - 1) x (by omega) hL
  rw [show 1000000000000 - L - 1 + L + 1 = gFu by show _ = 1000000000000; omega, show ((0 : Nat) : Int) = 0 from rfl] at b1
  obtain ⟨mc, hmc⟩ : ∃ y, y = g_up (g_up (g_up (g_up (g_up (g_up (g_up (g_up (g_up (g_up (g_up (g_up (g_up mb 49 11 a1) 49 12 a2) 49 10 a3) 49 5 1) 49 6 0) 49 7 0) 49 8 0) 49 9 0) 49 13 0) 49 32 0) 49 36 0) 49 44 0) 49 45 0 := ⟨_, rfl⟩
  have mcq : ∀ q, q ≠ 49 → mc q = mb q := fun q hq => by
    rw [hmc, g_up_ne hq, g_up_ne hq, g_up_ne hq, g_up_ne hq, g_up_ne hq, g_up_ne hq, g_up_ne hq, g_up_ne hq, g_up_ne hq, g_up_ne hq, g_up_ne hq, g_up_ne hq, g_up_ne hq]
  obtain ⟨md, d1, d2, d3, d4⟩ := f53 (K := M_start_204) 26 0 (1000000000000 - 27) mc (by omega)
  rw [show 1000000000000 - 27 + 26 + 1 = gFu from rfl, show ((0 : Nat) : Int) = 0 from rfl] at d1
  obtain ⟨mn, hmn⟩ : ∃ y, y = g_up (g_up (g_up md 49 22 0) 49 27 0) 49 28 0 := ⟨_, rfl⟩
  obtain ⟨m6, hm6⟩ : ∃ y, y = g_up (g_up (g_up (g_up (g_up mn 62 0 16) 62 1 16) 62 2 0) 62 3 0) 62 4 16 := ⟨_, rfl⟩
  obtain ⟨me', e1, e2, e3, e4⟩ := f63 3072 0 (1000000000000 - 3073) m6 (by omega)
  rw [show 1000000000000 - 3073 + 3072 + 1 = gFu from rfl, show ((0 : Nat) : Int) = 0 from rfl] at e1
  have m6q : ∀ q, q ≠ 49 → q ≠ 62 → m6 q = md q := fun q a b => by rw [hm6, g_up_ne b, g_up_ne b, g_up_ne b, g_up_ne b, g_up_ne b, hmn, g_up_ne a, g_up_ne a, g_up_ne a]
  have me4 : me' 49 4 = L := by
    rw [e4 49 (by decide) (by decide), hm6]
    simp (disch := decide) only [g_up_ne]
    rw [hmn, up_n (by decide), up_n (by decide), up_n (by decide), d4 49 (by decide), hmc]
    simp (disch := decide) only [up_n]
    rw [b4 49 (by decide)]
    exact hL
  obtain ⟨m', hm'⟩ : ∃ y, y = g_up (g_up (g_up (g_up (g_up (g_up me' 49 17 0) 55 0 0) 57 0 0) 56 0 L) 58 0 (-1)) 49 17 (0 + 1) := ⟨_, rfl⟩
  have e9 : st9 me' = some (0, m') := by
    unfold st9 M_enter
    have w0 : w32 0 = 0 := rfl
    have b0 : (0 : Int) ≤ 0 ∧ (0 : Int) < 22 := by decide
    rw [g_le_s, up_y, w0, if_pos b0, g_le_s, g_up_ne (by decide), up_y, w0, if_pos b0, g_le_s, g_up_ne (by decide), g_up_ne (by decide), up_y, w0, if_pos b0, g_le_s, g_up_ne (by decide), g_up_ne (by decide), g_up_ne (by decide), up_y, w0, if_pos b0, g_le_s, g_le_s, g_up_ne (show 49 ≠ 58 by decide), g_up_ne (show 49 ≠ 56 by decide), g_up_ne (show 49 ≠ 57 by decide), g_up_ne (show 49 ≠ 55 by decide), up_y, up_n (show ¬ (49 = 49 ∧ 4 = 17) by decide), me4, hm']
    rfl
  have mq : ∀ q, q ≠ 49 → q ≠ 55 → q ≠ 56 → q ≠ 57 → q ≠ 58 → m' q = me' q := fun q a b d e f => by rw [hm', g_up_ne a, g_up_ne f, g_up_ne d, g_up_ne e, g_up_ne b, g_up_ne a]
  have all : ∀ q, q ≠ 49 → q ≠ 53 → (q < 55 ∨ 58 < q) → q ≠ 62 → q ≠ 63 → q ≠ 64 → m' q = mb q := fun q a b d e f h => by
    rw [mq q a (by omega) (by omega) (by omega) (by omega), e4 q f h, m6q q a e, d4 q b, mcq q a]
  refine ⟨m', ?_, fun i hi => ?_, ?_, fun j hj => ?_, ?_, ?_, fun j hj => ?_, fun q a d => ?_⟩
  · rw [b1]
    unfold M_start_115
    rw [g_le_s, if_pos (by rw [w32_01 h2]; exact h2), g_le_s, g_le_s, g_le_s, g_le_s, g_le_s, g_le_s, g_le_s, g_le_s, g_le_s, g_le_s, g_le_s, g_le_s, ← hmc, d1]
    unfold M_start_204 M_noPath
    rw [g_le_s, g_le_s, g_le_s, g_bi_s, ← hmn, g_le_s, g_le_s, g_le_s, g_le_s, g_le_s, ← hm6, e1, e9]
  · rw [all 51 (by decide) (by decide) (by decide) (by decide) (by decide) (by decide)]
    exact b2 i (by omega) hi
  · rw [hm']
    refine up_cell ?_
    rw [g_up_ne (by decide), g_up_ne (by decide), g_up_ne (by decide), g_up_ne (by decide)]
    refine up_cell ?_
    rw [e4 49 (by decide) (by decide), hm6, g_up_ne (by decide), g_up_ne (by decide), g_up_ne (by decide), g_up_ne (by decide), g_up_ne (by decide), hmn]
    refine up_cell (up_cell (up_cell ?_))
    rw [d4 49 (by decide), hmc]
    exact up_cell (up_cell (up_cell (up_cell (up_cell (up_cell (up_cell (up_cell (up_cell (up_cell (up_cell (up_cell (up_cell (b4 49 (by decide))))))))))))))
  · rw [mq 53 (by decide) (by decide) (by decide) (by decide) (by decide), e4 53 (by decide) (by decide), m6q 53 (by decide) (by decide)]
    exact d2 j (by omega) hj
  · rw [hm']
    simp (disch := decide) only [g_up_ne, up_y]
    exact ⟨trivial, trivial, trivial, trivial⟩
  · rw [mq 62 (by decide) (by decide) (by decide) (by decide) (by decide), e4 62 (by decide) (by decide), hm6]
    simp (disch := decide) only [up_y, up_n]
    exact ⟨trivial, trivial, trivial, trivial, trivial⟩
  · rw [mq 63 (by decide) (by decide) (by decide) (by decide) (by decide), mq 64 (by decide) (by decide) (by decide) (by decide) (by decide)]
    exact e2 j (by omega) hj
  · rw [all q a (by omega) (by omega) (by omega) (by omega) (by omega)]
    exact b4 q (by omega)
end SB

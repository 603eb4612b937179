/-! start, whole -/
section SA
variable {n : Int} {c m c' m' : gS}
theorem lb_m1 {k : Nat} (hk : k < 64) : lb (-1) k = true := by
  unfold lb
  rw [show lB (-1) = BitVec.allOnes 64 by decide, BitVec.getLsbD_allOnes, decide_eq_true hk]
theorem op_start {a1 a2 a3 : Int} (w1 : w32 a1 = a1) (h2 : a2 = 0 ∨ a2 = 1) (w3 : w32 a3 = a3) (h : RA n c m) : ∃ (z z' : Int) (c' m' : gS), B_start a1 a2 a3 c = some (z, c') ∧ M_start a1 a2 a3 m = some (z', m') ∧ z = z' ∧ RA n c' m' := by
  obtain ⟨hP, hT, hH⟩ := id h
  have no : ∃ (z z' : Int) (c' m' : gS), some ((-1 : Int), c) = some (z, c') ∧ some ((-1 : Int), g_up m 49 0 0) = some (z', m') ∧ z = z' ∧ RA n c' m' := ⟨_, _, _, _, rfl, rfl, rfl, RA_code h⟩
  obtain ⟨L0, hs, hr, hn, h8, hph, -⟩ := id hH
  obtain ⟨hE, hS, hG, hO, hI, hK, hQ⟩ := id hP
  obtain ⟨o1, o2, o3, o4, o5, o6⟩ := id hO
  have wp : w32 (m 49 5) = m 49 5 := by rcases hph with e | e | e <;> rw [e] <;> rfl
  unfold B_start M_start Job_isUnderWay Order_left
  rw [g_le_s, w1, w3]
  by_cases q1 : a1 < 1
  · rw [if_pos q1, if_pos q1]; exact no
  rw [if_neg q1, if_neg q1]
  by_cases q2 : 4 < a1
  · rw [if_pos q2, if_pos q2]; exact no
  rw [if_neg q2, if_neg q2]
  by_cases q3 : a3 < 1
  · rw [if_pos q3, if_pos q3]; exact no
  rw [if_neg q3, if_neg q3]
  by_cases q4 : a3 ≤ 20000
  rotate_left
  · rw [if_neg q4, if_pos (show 20000 < a3 by omega)]; exact no
  rw [if_pos q4, if_neg (show ¬ 20000 < a3 by omega), up_n (show ¬ (49 = 49 ∧ 5 = 0) by decide), up_n (show ¬ (49 = 49 ∧ 44 = 0) by decide), up_n (show ¬ (49 = 49 ∧ 45 = 0) by decide), h8, wp]
  by_cases q5 : m 49 5 = 1
  · rw [if_pos q5, g_bi_s, if_neg (by decide), if_pos q5]; exact no
  rw [if_neg q5, g_bi_s, if_pos (show w32 0 = 0 from rfl), if_neg q5, g_bi_s, hE.2.2.2.2.2.2.1, hE.2.2.2.2.2.2.2.1, w32_id (z := m 49 44 - m 49 45) (by omega) (by omega), w32_id (z := m 49 44) (by omega) (by omega), w32_id (z := m 49 45) (by omega) (by omega)]
  by_cases q6 : m 49 44 ≤ m 49 45
  rotate_left
  · rw [if_neg (show ¬ m 49 44 - m 49 45 ≤ 0 by omega), if_neg q6]; exact no
  rw [if_pos (show m 49 44 - m 49 45 ≤ 0 by omega), if_pos q6]
  have hT0 : JT c (g_up m 49 0 0) := JT_code hT
  obtain ⟨z, f1, f2, f3, f4, f5⟩ := fault_both hT0
  rw [f1, f2, g_bi_s, g_bi_s, w32_id (z := z) (by omega) (by omega)]
  by_cases q7 : z = -1
  · rw [if_pos q7, if_pos q7]
    have g := f5 q7
    rw [g_up_ne (show 50 ≠ 49 by decide), up_n (show ¬ (49 = 49 ∧ 3 = 0) by decide)] at g
    obtain ⟨L, hL⟩ : ∃ L : Nat, m 49 3 = L := ⟨(m 49 3).toNat, by have := hT.2.1; omega⟩
    rw [show (m 49 3).toNat = L by omega] at g
    have hL3 := g.le
    obtain ⟨nv, hv⟩ := hr.pc.1
    rw [g_le_s, g_le_s, up_n (show ¬ (49 = 49 ∧ 3 = 0) by decide), hL]
    obtain ⟨m', b1, b2, b3, b4, b5, b6, b7, b8⟩ := beginM (x := g_up (g_up (g_up m 49 0 0) 49 4 L) 49 3 0) (L := L) (by rw [up_n (by decide), up_y]) hL3 (a1 := a1) (a2 := a2) (a3 := a3) h2
    have b2' : ∀ i, i < L → m' 51 i = m 50 i := fun i hi => by rw [b2 i hi, g_up_ne (by decide), g_up_ne (by decide), g_up_ne (by decide)]
    have b8' : ∀ q, q ≠ 49 → (q < 51 ∨ 65 ≤ q) → m' q = m q := fun q x y => by rw [b8 q x y, g_up_ne x, g_up_ne x, g_up_ne x]
    have kA : m' 49 4 = L ∧ m' 49 3 = 0 ∧ m' 49 5 = 1 ∧ m' 49 6 = 0 ∧ m' 49 7 = 0 ∧ m' 49 8 = 0 ∧ m' 49 9 = 0 ∧ m' 49 10 = a3 ∧ m' 49 11 = a1 ∧ m' 49 12 = a2 ∧ m' 49 13 = 0 ∧ m' 49 17 = 0 + 1 := by
      rw [b3]
      simp (disch := decide) only [up_n, up_y]
      exact ⟨trivial, trivial, trivial, trivial, trivial, trivial, trivial, trivial, trivial, trivial, trivial, trivial⟩
    have kB : m' 49 22 = 0 ∧ m' 49 27 = 0 ∧ m' 49 28 = 0 ∧ m' 49 32 = 0 ∧ m' 49 36 = 0 ∧ m' 49 44 = 0 ∧ m' 49 45 = 0 := by
      rw [b3]
      simp (disch := decide) only [up_n, up_y]
      exact ⟨trivial, trivial, trivial, trivial, trivial, trivial, trivial⟩
    have kC : m' 49 40 = m 49 40 ∧ m' 49 41 = m 49 41 ∧ m' 49 42 = m 49 42 ∧ m' 49 43 = m 49 43 ∧ m' 49 46 = m 49 46 ∧ m' 49 47 = m 49 47 := by
      rw [b3]
      simp (disch := decide) only [up_n]
      exact ⟨trivial, trivial, trivial, trivial, trivial, trivial⟩
    obtain ⟨A4, A3, A5, A6, A7, A8, A9, A10, A11, A12, A13, A17⟩ := kA
    obtain ⟨B22, B27, B28, B32, B36, B44, B45⟩ := kB
    obtain ⟨C40, C41, C42, C43, C46, C47⟩ := kC
    obtain ⟨c8, d1, d2, d3, d4, d5, d6, d7, d8, d9, d10, d11, d12, d13⟩ := beginC (c := c) (m := m) (m' := m') (by rw [hT.1]; exact hL) (fun j hj => (hT.2.2.2 j (by omega)).1) g b2' A4 hv.2.2.1 hv.2.1 (a := a3)
    obtain ⟨c9, e1, e2, e3, e4⟩ := f39 32 0 (1000000000000 - 33) (g_up (g_up (g_up (g_up (g_up (g_up c8 37 4 a1) 37 5 a2) 37 6 0) 37 7 0) 37 3 0) 37 2 0) (by omega)
    rw [show 1000000000000 - 33 + 32 + 1 = gFu from rfl, show ((0 : Nat) : Int) = 0 from rfl] at e1
    have q9 : ∀ q, q ≠ 39 → q ≠ 37 → c9 q = c8 q := fun q x y => by rw [e4 q x, g_up_ne y, g_up_ne y, g_up_ne y, g_up_ne y, g_up_ne y, g_up_ne y]
    have c37 : c9 37 4 = a1 ∧ c9 37 5 = a2 ∧ c9 37 3 = 0 ∧ c9 37 2 = 0 := by
      rw [e4 37 (by decide)]
      simp (disch := decide) only [up_n, up_y]
      exact ⟨trivial, trivial, trivial, trivial⟩
    obtain ⟨c', hc'⟩ : ∃ y, y = g_up c9 1 3 0 := ⟨_, rfl⟩
    have qc : ∀ q, q ≠ 1 → c' q = c9 q := fun q x => by rw [hc', g_up_ne x]
    have q8 : ∀ q, q ≠ 1 → q ≠ 39 → q ≠ 37 → c' q = c8 q := fun q x y w => by rw [qc q x, q9 q y w]
    have qo : ∀ q, q = 38 ∨ (40 ≤ q ∧ q ≤ 45) → c' q = c q := fun q x => by
      rw [q8 q (by omega) (by omega) (by omega)]
      exact d13 q (by show (decide (5 ≤ q) && decide (q ≤ 36)) = false; rw [decide_eq_false (show ¬ q ≤ 36 by omega), Bool.and_false])
    have e67 : ∀ i, i < 4 → m 67 i = -1 := fun i hi => by
      rcases (hI.1 i hi).1 with x | ⟨x1, x2, x3⟩
      · exact x
      · have := cnt_all (f := m 73) (n := (m 49 44).toNat) (by omega) (m 67 i).toNat (by omega)
        exact absurd x3 this
    refine ⟨0, 0, c', m', ?_, b1, rfl, ?_, ⟨by rw [hc', up_y, A3], by rw [A3]; exact Int.le_refl 0, by rw [A3]; decide, fun i hi => by rw [A3] at hi; omega⟩, L, ?_, RQ.of ⟨⟨0, ?_⟩, fun i hi => ?_, ⟨0, ?_⟩, ⟨0, ?_⟩, ⟨0, ?_⟩, fun j hj => ?_⟩, ?_, ?_, Or.inr (Or.inl A5), fun _ => ⟨⟨A6, A7⟩, by rw [A11]; exact ⟨by omega, by omega⟩, Or.inr ?_⟩⟩
    · unfold Order_begin B_start_82 Text_clear
      rw [d1, g_bi_s, g_le_s, if_pos (by rw [w32_01 h2]; exact h2), g_le_s, g_le_s, g_le_s, g_le_s, g_le_s, e1, g_bi_s, g_le_s, g_bi_s, q7, if_pos (by decide), ← hc']
    · refine ⟨?_, fun i hi => ?_, ?_, ⟨?_, ?_, ?_, ?_, ⟨fun x => ?_, fun _ i hi => ?_⟩, fun i hi => ?_⟩, ⟨fun i hi => ?_, fun i j hi hj hij hne => ?_⟩, fun i hi => ?_, ⟨⟨Or.inr B44, ?_⟩, fun x => ?_⟩⟩
      · unfold pE at *
        rw [qo 40 (by omega), qc 37 (by decide), c37.2.2.2, c37.2.2.1, c37.2.1, C40, C41, C42, C43, C46, C47, B44, B45, A12]
        exact ⟨hE.1, hE.2.1, hE.2.2.1, hE.2.2.2.1, hE.2.2.2.2.1, hE.2.2.2.2.2.1, rfl, rfl, rfl⟩
      · rw [qo 41 (by omega), qo 42 (by omega), qo 43 (by omega), b8' 67 (by decide) (by omega), b8' 68 (by decide) (by omega), b8' 71 (by decide) (by omega)]
        exact hS i hi
      · unfold pG at *
        rw [C40, C41, C46, C47, A12]
        exact ⟨hG.1, hG.2.1, hG.2.2.1, hG.2.2.2.1, hG.2.2.2.2.1, hG.2.2.2.2.2.1, hG.2.2.2.2.2.2.1, h2⟩
      · rw [B45]; exact Int.le_refl 0
      · rw [B45, B44]; exact Int.le_refl 0
      · rw [B44]; decide
      · rw [B45, B44]; rfl
      · rw [B44] at x; omega
      · rw [qc 39 (by decide)]; exact e2 i (by omega) hi
      · rw [B45] at hi; omega
      · rw [b8' 67 (by decide) (by omega), b8' 68 (by decide) (by omega)]
        obtain ⟨-, s2, s3, -⟩ := hI.1 i hi
        exact ⟨Or.inl (e67 i hi), s2, s3, fun x => absurd (e67 i hi) x⟩
      · rw [b8' 67 (by decide) (by omega)] at hne
        exact absurd (e67 i hi) hne
      · rw [qo 45 (by omega), b8' 69 (by decide) (by omega), b8' 67 (by decide) (by omega), C47]
        exact hK i hi
      · rw [qc 37 (by decide), c37.1, A11]
      · rw [B44] at x; omega
    · exact JS_congr (by rw [q8 6 (by decide) (by decide) (by decide)]) (q8 7 (by decide) (by decide) (by decide)) (q8 8 (by decide) (by decide) (by decide)) rfl rfl d2
    · exact ⟨hL3, by omega, by rw [q8 18 (by decide) (by decide) (by decide), d5]; rfl, by rw [A13]; rfl, fun i hi => by omega⟩
    · rw [q8 20 (by decide) (by decide) (by decide), d6 i hi, b4 i hi]
      exact ⟨rfl, by decide, by decide⟩
    · refine ⟨by omega, by rw [q8 21 (by decide) (by decide) (by decide), d7.1]; rfl, by rw [B32]; rfl, ⟨?_, fun y hy x hx => ?_⟩, fun k hk => by omega⟩
      · unfold SR
        simp only [Nat.zero_add]
        rw [q8 22 (by decide) (by decide) (by decide), q8 23 (by decide) (by decide) (by decide), q8 24 (by decide) (by decide) (by decide), q8 25 (by decide) (by decide) (by decide), q8 26 (by decide) (by decide) (by decide), d7.2.1, d7.2.2.1, d7.2.2.2.1, d7.2.2.2.2.1, d7.2.2.2.2.2, b6.1, b6.2.1, b6.2.2.1, b6.2.2.2.1, b6.2.2.2.2]
        decide
      · show m' 63 (64 * y + x) = if lb (c' 27 (48 * 0 + y)) (63 - x) then 1 else 0
        rw [(b7 _ (by omega)).1, q8 27 (by decide) (by decide) (by decide), d8 _ (by omega), lb_m1 (by omega)]
        rfl
    · exact ⟨by omega, by rw [q8 28 (by decide) (by decide) (by decide), d9.1]; rfl, by rw [B22]; rfl, fun i hi => by omega, by rw [q8 28 (by decide) (by decide) (by decide), d9.2, B28], Or.inl B28, by rw [B27]; rfl, fun x => by omega⟩
    · refine ⟨by omega, by rw [q8 34 (by decide) (by decide) (by decide), d10.1]; rfl, by rw [A8]; rfl, by rw [q8 34 (by decide) (by decide) (by decide), d10.2.1, B36], by rw [B36]; exact Int.le_refl 0, by rw [B36]; decide, fun y hy x hx => ?_, fun p hp => by omega⟩
      show m' 64 (24576 + (64 * y + x)) = if lb (c' 36 y) (63 - x) then 1 else 0
      rw [(b7 _ (by omega)).2, q8 36 (by decide) (by decide) (by decide), d10.2.2 y hy, lb_0]
      rfl
    · rw [q8 17 (by decide) (by decide) (by decide), d12]
      exact hr.pc.2.2.2.2.2 j hj
    · unfold JN
      rw [q8 5 (by decide) (by decide) (by decide), d11.2.1, d11.2.2.1, d11.2.2.2.1, d11.2.2.2.2, A6, A7, A9, A10]
      exact ⟨rfl, rfl, rfl, rfl, by decide, by decide, by omega, by omega, q4⟩
    · rw [q8 5 (by decide) (by decide) (by decide), d11.1, A5]
    · refine ⟨by rw [A17]; rfl, b5.1, b5.2.1, b5.2.2.1, b5.2.2.2, ?_, ?_⟩
      · rw [q8 10 (by decide) (by decide) (by decide), q8 11 (by decide) (by decide) (by decide), q8 12 (by decide) (by decide) (by decide), q8 13 (by decide) (by decide) (by decide), q8 14 (by decide) (by decide) (by decide)]
        exact d3
      · rw [q8 10 (by decide) (by decide) (by decide)]
        exact d4
  · rw [if_neg q7, if_neg q7]
    unfold B_start_82 Text_clear
    rw [g_le_s, g_bi_s, w32_id (z := z) (by omega) (by omega), if_neg q7, g_le_s]
    refine ⟨_, _, _, _, rfl, rfl, Int.add_comm z 1, RP_congr (fun q hq => g_up_ne (fun e => by rw [e] at hq; cases hq)) (fun q k hq => up_n (fun e => by rw [e.1, e.2] at hq; cases hq)) (RP_code hP), ⟨by rw [up_y, up_y], by rw [up_y]; exact Int.le_refl 0, by rw [up_y]; decide, fun i hi => by rw [up_y] at hi; omega⟩, RH_congr (fun q x y => g_up_ne (by omega)) (fun k x y => by rw [up_n (by omega)]) (fun q x y => by rw [g_up_ne (by omega)]) (RH_code (v := 0) hH)⟩
end SA

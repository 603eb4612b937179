/-! the second layer, whole -/
theorem okZ.at {s : gS} {q : Nat} (h : okZ s q) (j : Nat) : s q j = 0 := congrFun h j
theorem fresh_RA {S : gS} (hz : ∀ q, q = 1 ∨ q = 5 ∨ q = 6 ∨ q = 17 ∨ q = 18 ∨ q = 20 ∨ q = 21 ∨ q = 24 ∨ q = 25 ∨ q = 28 ∨ q = 34 ∨ q = 36 ∨ q = 37 ∨ q = 39 ∨ q = 40 ∨ q = 42 ∨ q = 43 ∨ q = 45 ∨ q = 49 ∨ q = 53 ∨ q = 64 ∨ q = 68 ∨ q = 69 ∨ q = 71 ∨ q = 73 → ∀ j, S q j = 0) (h22 : S 22 0 = 16) (h23 : S 23 0 = 16) (h26 : S 26 0 = 16) (h27 : ∀ j, j < 240 → S 27 j = -1) (h41 : ∀ i, i < 4 → S 41 i = -1) (h62 : S 62 0 = 16 ∧ S 62 1 = 16 ∧ S 62 2 = 0 ∧ S 62 3 = 0 ∧ S 62 4 = 16) (h67 : ∀ i, i < 4 → S 67 i = -1) : RA 0 S S := by
  have z49 : ∀ j, S 49 j = 0 := hz 49 (by decide)
  refine ⟨⟨?_, fun i hi => ?_, ?_, ⟨?_, ?_, ?_, ?_, ⟨fun x => ?_, fun _ i hi => hz 39 (by decide) i⟩, fun i hi => ?_⟩, ⟨fun i hi => ?_, fun i j hi hj hij hne => absurd (h67 i hi) hne⟩, fun i hi => ?_, ⟨⟨Or.inr (z49 44), ?_⟩, fun x => ?_⟩⟩, ⟨?_, ?_, ?_, fun i hi => ?_⟩, 0, ?_, ⟨fun _ => 1, ⟨⟨0, ?_⟩, fun i hi => ?_, ⟨0, ?_⟩, ⟨0, ?_⟩, ⟨0, ?_⟩, fun j hj => hz 17 (by decide) j⟩, fun x => absurd (z49 5) x⟩, ?_, ?_, Or.inl (z49 5), fun x => ?_⟩
  · unfold pE
    rw [hz 40 (by decide) 6, hz 40 (by decide) 7, hz 40 (by decide) 8, hz 40 (by decide) 9, hz 40 (by decide) 10, hz 40 (by decide) 11, hz 37 (by decide) 2, hz 37 (by decide) 3, hz 37 (by decide) 5, z49 41, z49 40, z49 46, z49 42, z49 43, z49 47, z49 45, z49 44, z49 12]
    decide
  · rw [h41 i hi, h67 i hi, hz 42 (by decide) i, hz 68 (by decide) i, hz 43 (by decide) i, hz 71 (by decide) i]
    exact ⟨rfl, rfl, rfl, Or.inl rfl⟩
  · unfold pG
    rw [z49 41, z49 40, z49 46, z49 47, z49 12]
    decide
  · rw [z49 45]; exact Int.le_refl 0
  · rw [z49 45, z49 44]; exact Int.le_refl 0
  · rw [z49 44]; decide
  · rw [z49 45, z49 44]; rfl
  · rw [z49 44] at x; omega
  · rw [z49 45] at hi; omega
  · rw [hz 68 (by decide) i]
    exact ⟨Or.inl (h67 i hi), by decide, by decide, fun x => absurd (h67 i hi) x⟩
  · rw [hz 45 (by decide) i, hz 69 (by decide) i]
    exact ⟨Or.inl rfl, by decide, by decide, by decide, by decide⟩
  · rw [hz 37 (by decide) 4, z49 11]
  · rw [z49 44] at x; omega
  · rw [hz 1 (by decide) 3, z49 3]
  · rw [z49 3]; exact Int.le_refl 0
  · rw [z49 3]; decide
  · rw [z49 3] at hi; omega
  · exact ⟨by rw [hz 6 (by decide) 3]; rfl, by rw [z49 4]; rfl, ⟨by omega, fun j hj => by omega, fun j hj => by omega, rfl, rfl⟩, fun i hi => by omega, fun j q b hq => by omega⟩
  · exact ⟨by omega, by omega, by rw [hz 18 (by decide) 1]; rfl, by rw [sw_n (by decide), z49 13]; rfl, fun i hi => by omega⟩
  · rw [hz 20 (by decide) i, sw_n (by decide), hz 53 (by decide) i]
    decide
  · refine ⟨by omega, by rw [hz 21 (by decide) 6]; rfl, by rw [sw_n (by decide), z49 32]; rfl, ⟨?_, fun y hy x hx => ?_⟩, fun k hk => by omega⟩
    · unfold SR
      simp only [Nat.zero_add]
      rw [sw_n (by decide), h22, h23, hz 24 (by decide) 0, hz 25 (by decide) 0, h26, h62.1, h62.2.1, h62.2.2.1, h62.2.2.2.1, h62.2.2.2.2]
      decide
    · rw [sw_y]
      show (1 : Int) = if lb (S 27 (48 * 0 + y)) (63 - x) then 1 else 0
      rw [h27 _ (by omega), lb_m1 (by omega)]
      rfl
  · refine ⟨by omega, by rw [hz 28 (by decide) 5]; rfl, by rw [sw_n (by decide), z49 22]; rfl, fun i hi => by omega, by rw [hz 28 (by decide) 7, sw_n (by decide), z49 28], Or.inl (by rw [sw_n (by decide), z49 28]), by rw [sw_n (by decide), z49 27]; rfl, fun x => by omega⟩
  · refine ⟨by omega, by rw [hz 34 (by decide) 2]; rfl, by rw [sw_n (by decide), z49 8]; rfl, by rw [hz 34 (by decide) 3, sw_n (by decide), z49 36], by rw [sw_n (by decide), z49 36]; exact Int.le_refl 0, by rw [sw_n (by decide), z49 36]; decide, fun y hy x hx => ?_, fun p hp => by omega⟩
    show sw S (fun _ => 1) 64 (24576 + (64 * y + x)) = if lb (S 36 y) (63 - x) then 1 else 0
    rw [sw_n (by decide), hz 64 (by decide), hz 36 (by decide), lb_0]
    rfl
  · unfold JN
    rw [hz 5 (by decide) 9, hz 5 (by decide) 10, hz 5 (by decide) 11, hz 5 (by decide) 12, z49 6, z49 7, z49 9, z49 10]
    decide
  · rw [hz 5 (by decide) 8, z49 5]
  · rw [z49 5] at x; cases x
theorem g_layer2 : ∃ (sB sM : gS) (z1 z2 : Int) (R : Nat → gS → gS → Prop), B_init_k0 (g_nw (fun _ _ => 0) 0) = some (z1, sB) ∧ M_init_k0 (g_nw sB 49) = some (z2, sM) ∧ R 0 (g_nw sM 74) (g_nw sM 74) ∧ ∀ (k : Nat) (sC sN : gS), k < 512 → R k sC sN → g_stp (R (k + 1)) sC sN := by
  obtain ⟨sB, hB, ⟨a1, a5, a6, a17, a18, a20, a21, a24, a25, a28, a34, a36, a37, a39, a40, a42, a43, a45⟩, b22, b23, b26, b27, b0, b1, b2, b3⟩ := fresh_B
  obtain ⟨sM, hM, ⟨d49, d53, d64, d68, d69, d71, d73⟩, d62, ⟨e0, e1, e2, e3⟩, hq⟩ := fresh_M sB
  refine ⟨sB, sM, 0, 0, fun _ => RA 0, hB, hM, fresh_RA (fun q hx j => ?_) ?_ ?_ ?_ (fun j hj => ?_) (fun i hi => ?_) ?_ (fun i hi => ?_), fun k sC sN _ h => all_calls h⟩
  · rw [nw_n (show q ≠ 74 by omega)]
    rcases hx with rfl | rfl | rfl | rfl | rfl | rfl | rfl | rfl | rfl | rfl | rfl | rfl | rfl | rfl | rfl | rfl | rfl | rfl | rfl | rfl | rfl | rfl | rfl | rfl | rfl
    · rw [hq 1 (by decide)]; exact a1.at j
    · rw [hq 5 (by decide)]; exact a5.at j
    · rw [hq 6 (by decide)]; exact a6.at j
    · rw [hq 17 (by decide)]; exact a17.at j
    · rw [hq 18 (by decide)]; exact a18.at j
    · rw [hq 20 (by decide)]; exact a20.at j
    · rw [hq 21 (by decide)]; exact a21.at j
    · rw [hq 24 (by decide)]; exact a24.at j
    · rw [hq 25 (by decide)]; exact a25.at j
    · rw [hq 28 (by decide)]; exact a28.at j
    · rw [hq 34 (by decide)]; exact a34.at j
    · rw [hq 36 (by decide)]; exact a36.at j
    · rw [hq 37 (by decide)]; exact a37.at j
    · rw [hq 39 (by decide)]; exact a39.at j
    · rw [hq 40 (by decide)]; exact a40.at j
    · rw [hq 42 (by decide)]; exact a42.at j
    · rw [hq 43 (by decide)]; exact a43.at j
    · rw [hq 45 (by decide)]; exact a45.at j
    · exact d49.at j
    · exact d53.at j
    · exact d64.at j
    · exact d68.at j
    · exact d69.at j
    · exact d71.at j
    · exact d73.at j
  · rw [nw_n (by decide), hq 22 (by decide)]; exact b22
  · rw [nw_n (by decide), hq 23 (by decide)]; exact b23
  · rw [nw_n (by decide), hq 26 (by decide)]; exact b26
  · rw [nw_n (by decide), hq 27 (by decide)]; exact b27 j hj
  · rw [nw_n (by decide), hq 41 (by decide)]
    rcases (show i = 0 ∨ i = 1 ∨ i = 2 ∨ i = 3 by omega) with rfl | rfl | rfl | rfl
    · exact b0
    · exact b1
    · exact b2
    · exact b3
  · rw [nw_n (by decide)]; exact d62
  · rw [nw_n (by decide)]
    rcases (show i = 0 ∨ i = 1 ∨ i = 2 ∨ i = 3 by omega) with rfl | rfl | rfl | rfl
    · exact e0
    · exact e1
    · exact e2
    · exact e3

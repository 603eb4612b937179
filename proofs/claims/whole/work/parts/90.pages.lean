/-! F, E, W, P -/
section PG
variable {n l k s L : Nat} {c c' m m' : gS} {odd : Int}
theorem use_0 (h1 : c 18 1 = n) (hn : n ≤ 32) {w : Int} (hw : w32 w = w) (h0 : nd w = 0) : Job_use_260 w c = some (0, c) := by
  unfold Job_use_260
  rw [needsC c hw, g_bi_s, h0, drop_is h1 hn 0 0 rfl (by omega), g_bi_s, Nat.sub_zero, up_id h1]
theorem pc_of (hm : JM l c m) (hp : JP s c m) : PC s (m 59) (m 60) (m 61) (m 63) m := ⟨hp.pm, rfl, fun j hj => hm.2.2.2.1.2.b01 hj⟩
theorem oC_of {q : Nat} (h : oC q = false) : q < 15 ∨ 36 < q := by
  rcases (show q < 15 ∨ 36 < q ∨ (15 ≤ q ∧ q ≤ 36) by omega) with x | x | x
  · exact Or.inl x
  · exact Or.inr x
  · unfold oC at h
    rw [decide_eq_true x.1, decide_eq_true x.2] at h
    cases h
theorem oM_of {q j : Nat} (h : oM q j = false) : ¬ (52 ≤ q ∧ q ≤ 54) ∧ ¬ (59 ≤ q ∧ q ≤ 65) ∧ ¬ (q = 49 ∧ (j = 8 ∨ j = 13 ∨ (22 ≤ j ∧ j ≤ 28) ∨ j = 32 ∨ j = 36)) := by
  unfold oM at h
  simp only [Bool.or_eq_false_iff, Bool.and_eq_false_iff, decide_eq_false_iff_not] at h
  omega
theorem fC_ao {c c' : gS} (f : fC aC c c') : fC oC c c' := fun q hq => f q (by
  have := oC_of hq
  unfold aC
  rcases this with x | x
  · rw [decide_eq_false (by omega)]; rfl
  · rw [decide_eq_false (show ¬ q ≤ 33 by omega), Bool.and_false])
theorem fM_ao {m m' : gS} (f : fM aM m m') : fM oM m m' := fun q j hq => f q j (by
  have := oM_of hq
  unfold aM
  simp only [Bool.or_eq_false_iff, Bool.and_eq_false_iff, decide_eq_false_iff_not]
  omega)
theorem fill_both' (hv : JV L n c m) (hm : JM l c m) (hp : JP s c m) (hg : JG k c m) (ho : odd = 0 ∨ odd = 1) (ht : TRd (m 59) (m 60) (m 61) s odd c 48) (hb : m 49 36 + (tot (gin (m 63) (m 59) (m 60) (m 61) s odd) 48 : Nat) ≤ 250) {w : Int} (hw : w32 w = w) (h0 : nd w = 0) : ∃ c' m', Job_use_92 w c = some (0, c') ∧ M_fill (1 - odd) m = some (0, m') ∧ JV L n c' m' ∧ JM l c' m' ∧ JP 0 c' m' ∧ JG k c' m' ∧ c' 17 = c 17 ∧ fC oC c c' ∧ fM oM m m' ∧ c' 20 = c 20 ∧ m' 53 = m 53 := by
  obtain ⟨j1, j2, j3, j4, j5, j6, j7, j8⟩ := id hg
  obtain ⟨e0, r0⟩ := hm.2.2.2.1.1
  simp only [Nat.zero_add] at e0 r0
  obtain ⟨T, hT⟩ : ∃ T : Nat, T = tot (gin (m 63) (m 59) (m 60) (m 61) s odd) 48 := ⟨_, rfl⟩
  have n34 : ∀ q, q ≠ 34 → g_up c 34 3 (c 34 3 + (T : Int)) q = c q := fun q hq => g_up_ne hq
  have hm1 : JM l (g_up c 34 3 (c 34 3 + (T : Int))) m := JM_congr (by rw [n34 _ (by decide)]) (n34 _ (by decide)) (n34 _ (by decide)) (n34 _ (by decide)) (n34 _ (by decide)) (n34 _ (by decide)) (n34 _ (by decide)) rfl rfl rfl hm
  obtain ⟨c2, p1, p2, p3, p4⟩ := paint_loop (g := m 62 4) (X := m 59) (Y := m 60) (B := m 61) (n := s) (odd := odd) (by omega) (by omega) 48 0 (1000000000000 - 49) (g_up c 34 3 (c 34 3 + (T : Int))) (by omega) hm1 (by rw [n34 _ (by decide)]; exact e0.2.2.2.2) (by unfold TRd; rw [n34 _ (by decide)]; exact ht)
  rw [show 1000000000000 - 49 + 48 + 1 = gFu from rfl, show ((0 : Nat) : Int) = 0 from rfl] at p1
  obtain ⟨m1, l1, l2, l3⟩ := look_is (odd := odd) ho (pc_of hm hp)
  rw [← hT] at l1 hb
  have l62 : m1 62 4 = m 62 4 := l3 62 4 rfl
  obtain ⟨m2, f1, f2, f3, f4⟩ := fill_loop (g := m 62 4) (G := gin (m 63) (m 59) (m 60) (m 61) s odd) (by omega) (by omega) 3072 0 (1000000000000 - 3073) (g_up m1 49 36 (m 49 36 + (T : Int))) (by omega) (by rw [g_up_ne (by decide)]; exact l62) (fun i hi => by rw [g_up_ne (by decide)]; exact l2 i hi)
  rw [show 1000000000000 - 3073 + 3072 + 1 = gFu from rfl, show ((0 : Nat) : Int) = 0 from rfl] at f1
  have mq : ∀ q j, q ≠ 64 → q ≠ 65 → ¬ (q = 49 ∧ j = 36) → m2 q j = m q j := fun q j a b d => by
    rw [f4 q a, up_n d]
    exact l3 q j (decide_eq_false b)
  have m49 : ∀ j, j ≠ 36 → m2 49 j = m 49 j := fun j hj => mq 49 j (by decide) (by decide) (fun x => hj x.2)
  have cq : ∀ q, q ≠ 36 → q ≠ 34 → c2 q = c q := fun q a b => by rw [p4 q a, n34 q b]
  have hp2 : JP s c2 m2 := JP_congr (cq _ (by decide) (by decide)) (cq _ (by decide) (by decide)) (cq _ (by decide) (by decide)) (cq _ (by decide) (by decide)) (fun j a b => m49 j (by omega)) (funext fun j => mq 59 j (by decide) (by decide) (by omega)) (funext fun j => mq 60 j (by decide) (by decide) (by omega)) (funext fun j => mq 61 j (by decide) (by decide) (by omega)) hp
  obtain ⟨c3, m3, q1, q2, q3, q4, q5⟩ := clear_both hp2
  have hc18 : c3 18 1 = n := by rw [q4 18 rfl, cq _ (by decide) (by decide)]; exact hv.2.2.1
  have e64 : ∀ j, m3 64 j = m2 64 j := fun j => q5 64 j rfl
  refine ⟨c3, m3, ?_, ?_, ?_, ?_, q3, ⟨j1, ?_, ?_, ?_, ?_, ?_, fun y hy x hx => ?_, fun p hpk y hy x hx => ?_⟩, ?_, ?_, ?_, by rw [q4 20 rfl, cq 20 (by decide) (by decide)], funext fun j => by rw [q5 53 j rfl]; exact mq 53 j (by decide) (by decide) (by omega)⟩
  · unfold Job_use_92 Pages_paint
    rw [marks_is hm ht, ← hT, g_bi_s, g_le_s, p1, g_bi_s, q1, g_bi_s, use_0 hc18 hv.2.1 hw h0]
  · unfold M_fill
    rw [l1, g_bi_s, g_le_s, f1, q2, g_bi_s]
  · exact JV_congr (by rw [q4 18 rfl, cq _ (by decide) (by decide)]) (by rw [q4 19 rfl, cq _ (by decide) (by decide)]) (by rw [q5 49 13 rfl]; exact m49 13 (by decide)) (funext fun j => by rw [q5 52 j rfl]; exact mq 52 j (by decide) (by decide) (by omega)) (funext fun j => by rw [q5 54 j rfl]; exact mq 54 j (by decide) (by decide) (by omega)) (funext fun j => by rw [q5 51 j rfl]; exact mq 51 j (by decide) (by decide) (by omega)) hv
  · exact JM_congr (by rw [q4 21 rfl, cq _ (by decide) (by decide)]) (by rw [q4 22 rfl, cq _ (by decide) (by decide)]) (by rw [q4 23 rfl, cq _ (by decide) (by decide)]) (by rw [q4 24 rfl, cq _ (by decide) (by decide)]) (by rw [q4 25 rfl, cq _ (by decide) (by decide)]) (by rw [q4 26 rfl, cq _ (by decide) (by decide)]) (by rw [q4 27 rfl, cq _ (by decide) (by decide)]) (by rw [q5 49 32 rfl]; exact m49 32 (by decide)) (funext fun j => by rw [q5 62 j rfl]; exact mq 62 j (by decide) (by decide) (by omega)) (funext fun j => by rw [q5 63 j rfl]; exact mq 63 j (by decide) (by decide) (by omega)) hm
  · rw [q4 34 rfl, p4 34 (by decide), up_n (by decide)]; exact j2
  · rw [q5 49 8 rfl, m49 8 (by decide)]; exact j3
  · rw [q4 34 rfl, p4 34 (by decide), up_y, q5 49 36 rfl, f4 49 (by decide), up_y, j4]
  · rw [q5 49 36 rfl, f4 49 (by decide), up_y]; omega
  · rw [q5 49 36 rfl, f4 49 (by decide), up_y]; exact hb
  · show m3 64 (24576 + (64 * y + x)) = if lb (c3 36 y) (63 - x) then 1 else 0
    rw [e64, f2 (64 * y + x) (by omega) (by omega), show (64 * y + x) / 64 = y by omega, show (64 * y + x) % 64 = x by omega, q4 36 rfl, p2 y (by omega) hy x hx, g_up_ne (show 64 ≠ 49 by decide), n34 36 (by decide), l3 64 _ rfl]
    have o := j7 y hy x hx
    cases gin (m 63) (m 59) (m 60) (m 61) s odd y x with
    | false =>
      rw [if_neg (show ¬ false = true by decide), if_neg (show ¬ false = true by decide)]
      exact o
    | true =>
      rw [if_pos (show true = true from rfl), if_pos (show true = true from rfl)]
      by_cases z : cl x y < m 62 4
      · rw [if_pos z, decide_eq_true z]; rfl
      · rw [if_neg z, decide_eq_false z]; rfl
  · show m3 64 (3072 * p + (64 * y + x)) = if lb (c3 35 (48 * p + y)) (63 - x) then 1 else 0
    rw [e64, f3 _ (by omega), g_up_ne (by decide), l3 64 _ rfl, q4 35 rfl, cq 35 (by decide) (by decide)]
    exact j8 p hpk y hy x hx
  · rw [q4 17 rfl, cq 17 (by decide) (by decide)]
  · intro q hq
    have := oC_of hq
    rw [(fC_ao q4) q hq, cq q (by omega) (by omega)]
  · intro q j hq
    have := oM_of hq
    rw [(fM_ao q5) q j hq]
    exact mq q j (by omega) (by omega) (by omega)
/-! W -/
theorem cutC_loop (hm : JM l c m) {R : Nat → Int} : ∀ (d y N : Nat) (x : gS), y + d = 48 → x 21 6 = l → x 16 = R → ∃ x', Settings_cutClip_2L (N + d + 1) y x = some (0, x') ∧ (∀ y', y ≤ y' → y' < 48 → x' 27 (48 * l + y') = l_and (x 27 (48 * l + y')) (R y')) ∧ (∀ j, ¬ (48 * l + y ≤ j ∧ j < 48 * l + 48) → x' 27 j = x 27 j) ∧ ∀ q, q ≠ 27 → x' q = x q := by
  have hl := hm.1
  intro d
  induction d with
  | zero =>
    intro y N x hy h6 hR
    refine ⟨x, ?_, fun _ _ _ => by omega, fun _ _ => rfl, fun _ _ => rfl⟩
    show Settings_cutClip_2 _ _ _ = _
    unfold Settings_cutClip_2
    rw [show y = 48 by omega, if_pos (by decide)]
  | succ d ih =>
    intro y N x hy h6 hR
    have b1 : (0 : Int) ≤ ((48 * l + y : Nat) : Int) ∧ ((48 * l + y : Nat) : Int) < 240 := ⟨by omega, by omega⟩
    have b2 : (0 : Int) ≤ (y : Int) ∧ (y : Int) < 48 := ⟨by omega, by omega⟩
    obtain ⟨x', i1, i2, i3, i4⟩ := ih (y + 1) N (g_up x 27 (48 * l + y) (l_and (x 27 (48 * l + y)) (R y))) (by omega) (by rw [g_up_ne (by decide)]; exact h6) (by rw [g_up_ne (by decide)]; exact hR)
    refine ⟨x', ?_, fun y' a b => ?_, fun j hj => ?_, fun q hq => by rw [i4 q hq, g_up_ne hq]⟩
    · show Settings_cutClip_2 (Settings_cutClip_2L (N + d + 1)) _ _ = _
      unfold Settings_cutClip_2
      rw [h6, show (l : Int) * 48 + y = ((48 * l + y : Nat) : Int) by omega, w_nat (show y < 2147483648 by omega), if_neg (by omega), w_nat (show 48 * l + y < 2147483648 by omega), if_pos b1, if_pos b2, if_pos b1, g_le_s, Int.toNat_natCast, Int.toNat_natCast, hR]
      exact i1
    · rcases (show y' = y ∨ y + 1 ≤ y' by omega) with rfl | q
      · rw [i3 _ (by omega), up_y]
      · rw [i2 y' q b, up_n (by omega)]
    · rw [i3 j (by omega), up_n (by omega)]
theorem cutM_loop : ∀ (d j N : Nat) (x : gS), j + d = 3072 → (∀ i, i < 3072 → x 65 i = 0 ∨ x 65 i = 1) → ∃ x', M_cut_8L (N + d + 1) j x = g_bi (M_noPath x') (fun _ s6 => some (0, s6)) ∧ (∀ i, j ≤ i → i < 3072 → x' 63 i = x 65 i) ∧ (∀ i, ¬ (j ≤ i ∧ i < 3072) → x' 63 i = x 63 i) ∧ ∀ q, q ≠ 63 → x' q = x q := by
  intro d
  induction d with
  | zero =>
    intro j N x hj h01
    refine ⟨x, ?_, fun _ _ _ => by omega, fun _ _ => rfl, fun _ _ => rfl⟩
    show M_cut_8 _ _ _ = _
    unfold M_cut_8
    rw [show j = 3072 by omega, if_pos (by decide)]
  | succ d ih =>
    intro j N x hj h01
    have b1 : (0 : Int) ≤ (j : Int) ∧ (j : Int) < 3072 := ⟨by omega, by omega⟩
    have b2 : (0 : Int) ≤ (j : Int) ∧ (j : Int) < 15360 := ⟨by omega, by omega⟩
    obtain ⟨x', i1, i2, i3, i4⟩ := ih (j + 1) N (g_up x 63 j (x 65 j)) (by omega) (fun i hi => by rw [g_up_ne (by decide)]; exact h01 i hi)
    refine ⟨x', ?_, fun i a b => ?_, fun i hi => ?_, fun q hq => by rw [i4 q hq, g_up_ne hq]⟩
    · show M_cut_8 (M_cut_8L (N + d + 1)) _ _ = _
      unfold M_cut_8
      rw [w_nat (by omega), if_neg (by omega), if_pos b1, if_pos b2, g_le_s, Int.toNat_natCast, i_nar_01 (h01 j (by omega))]
      exact i1
    · rcases (show i = j ∨ j + 1 ≤ i by omega) with rfl | q
      · rw [i3 _ (by omega), up_y]
      · rw [i2 i q b, g_up_ne (by decide)]
    · rw [i3 i (by omega), up_n (by omega)]
theorem cut_both' (hv : JV L n c m) (hm : JM l c m) (hp : JP s c m) (hg : JG k c m) (hz : ∀ j, j < 64 → c 17 j = 0) : ∃ c' m', Job_use 87 c = some (0, c') ∧ M_cut m = some (0, m') ∧ JV L n c' m' ∧ JM l c' m' ∧ JP 0 c' m' ∧ JG k c' m' ∧ (∀ j, j < 64 → c' 17 j = 0) ∧ fC oC c c' ∧ fM oM m m' ∧ c' 20 = c 20 ∧ m' 53 = m 53 := by
  obtain ⟨c1, t1, t2, t3, t4⟩ := trace_is (odd := 0) (Or.inl rfl) hp.pd hz
  have hm1 : JM l c1 m := JM_congr (by rw [t4 21 rfl]) (t4 22 rfl) (t4 23 rfl) (t4 24 rfl) (t4 25 rfl) (t4 26 rfl) (t4 27 rfl) rfl rfl rfl hm
  obtain ⟨c2, u1, u2, u3, u4⟩ := cutC_loop hm1 (R := c1 16) 48 0 (1000000000000 - 49) c1 (by omega) hm1.2.1 rfl
  rw [show 1000000000000 - 49 + 48 + 1 = gFu from rfl, show ((0 : Nat) : Int) = 0 from rfl] at u1
  obtain ⟨m1, l1, l2, l3⟩ := look_is (odd := 0) (Or.inl rfl) (pc_of hm hp)
  obtain ⟨m2, f1, f2, f3, f4⟩ := cutM_loop 3072 0 (1000000000000 - 3073) m1 (by omega) (fun i hi => by rw [l2 i hi]; exact bi_01 _)
  rw [show 1000000000000 - 3073 + 3072 + 1 = gFu from rfl, show ((0 : Nat) : Int) = 0 from rfl] at f1
  have mq : ∀ q j, q ≠ 63 → q ≠ 65 → m2 q j = m q j := fun q j a b => by
    rw [f4 q a]
    exact l3 q j (decide_eq_false b)
  have cq : ∀ q, q ≠ 27 → rC q = false → c2 q = c q := fun q a b => by rw [u4 q a, t4 q b]
  have hp2 : JP s c2 m2 := JP_congr (cq _ (by decide) rfl) (cq _ (by decide) rfl) (cq _ (by decide) rfl) (cq _ (by decide) rfl) (fun j a b => mq 49 j (by decide) (by decide)) (funext fun j => mq 59 j (by decide) (by decide)) (funext fun j => mq 60 j (by decide) (by decide)) (funext fun j => mq 61 j (by decide) (by decide)) hp
  obtain ⟨c3, m3, q1, q2, q3, q4, q5⟩ := clear_both hp2
  have hc18 : c3 18 1 = n := by rw [q4 18 rfl, cq _ (by decide) rfl]; exact hv.2.2.1
  have e63 : ∀ j, m3 63 j = m2 63 j := fun j => q5 63 j rfl
  refine ⟨c3, m3, ?_, ?_, ?_, ⟨hm.1, ?_, ?_, ⟨?_, fun y hy x hx => ?_⟩, fun p hpl => ⟨?_, fun y hy x hx => ?_⟩⟩, q3, ?_, fun j hj => ?_, ?_, ?_, by rw [q4 20 rfl, cq 20 (by decide) rfl], funext fun j => by rw [q5 53 j rfl]; exact mq 53 j (by decide) (by decide)⟩
  · unfold Job_use Settings_cutClip
    simp (decide := true) only [if_false, if_true]
    rw [t1, g_bi_s, u1, g_bi_s, q1, g_bi_s, use_0 hc18 hv.2.1 (by decide) (by decide)]
  · unfold M_cut
    rw [show (1 : Int) = 1 - 0 from rfl, l1, g_bi_s, f1, q2, g_bi_s]
  · exact JV_congr (by rw [q4 18 rfl, cq _ (by decide) rfl]) (by rw [q4 19 rfl, cq _ (by decide) rfl]) (by rw [q5 49 13 rfl]; exact mq 49 13 (by decide) (by decide)) (funext fun j => by rw [q5 52 j rfl]; exact mq 52 j (by decide) (by decide)) (funext fun j => by rw [q5 54 j rfl]; exact mq 54 j (by decide) (by decide)) (funext fun j => by rw [q5 51 j rfl]; exact mq 51 j (by decide) (by decide)) hv
  · rw [q4 21 rfl, cq _ (by decide) rfl]; exact hm.2.1
  · rw [q5 49 32 rfl, mq 49 32 (by decide) (by decide)]; exact hm.2.2.1
  · refine SR_congr ?_ ?_ ?_ ?_ ?_ (fun i hi => ?_) hm.2.2.2.1.1
    · rw [q4 22 rfl, cq _ (by decide) rfl]
    · rw [q4 23 rfl, cq _ (by decide) rfl]
    · rw [q4 24 rfl, cq _ (by decide) rfl]
    · rw [q4 25 rfl, cq _ (by decide) rfl]
    · rw [q4 26 rfl, cq _ (by decide) rfl]
    · rw [q5 62 _ rfl, mq 62 _ (by decide) (by decide)]
  · show m3 63 (64 * y + x) = if lb (c3 27 (48 * l + y)) (63 - x) then 1 else 0
    have pb := pl_bit hm1 t2 hy hx
    rw [e63, f2 _ (by omega) (by omega), l2 _ (by omega), show (64 * y + x) / 64 = y by omega, show (64 * y + x) % 64 = x by omega, q4 27 rfl, u2 y (by omega) hy, ← pb]
    unfold pl bi
    rw [lb_and, lb_and, Bool.and_comm]
  · refine SR_congr ?_ ?_ ?_ ?_ ?_ (fun i hi => ?_) (hm.2.2.2.2 p hpl).1
    · rw [q4 22 rfl, cq _ (by decide) rfl]
    · rw [q4 23 rfl, cq _ (by decide) rfl]
    · rw [q4 24 rfl, cq _ (by decide) rfl]
    · rw [q4 25 rfl, cq _ (by decide) rfl]
    · rw [q4 26 rfl, cq _ (by decide) rfl]
    · rw [q5 62 _ rfl, mq 62 _ (by decide) (by decide)]
  · show m3 63 (3072 * (p + 1) + (64 * y + x)) = if lb (c3 27 (48 * p + y)) (63 - x) then 1 else 0
    rw [e63, f3 _ (by omega), l3 63 _ rfl, q4 27 rfl, u3 _ (by omega), t4 27 rfl]
    exact (hm.2.2.2.2 p hpl).2 y hy x hx
  · exact JG_congr (by rw [q4 34 rfl, cq _ (by decide) rfl]) (by rw [q4 35 rfl, cq _ (by decide) rfl]) (by rw [q4 36 rfl, cq _ (by decide) rfl]) (by rw [q5 49 8 rfl]; exact mq 49 8 (by decide) (by decide)) (by rw [q5 49 36 rfl]; exact mq 49 36 (by decide) (by decide)) (funext fun j => by rw [q5 64 j rfl]; exact mq 64 j (by decide) (by decide)) hg
  · rw [q4 17 rfl, u4 17 (by decide)]
    exact t3 j hj
  · intro q hq
    have := oC_of hq
    rw [(fC_ao q4) q hq, cq q (by omega) (by unfold rC; rw [decide_eq_false (by omega), decide_eq_false (by omega)]; rfl)]
  · intro q j hq
    have := oM_of hq
    rw [(fM_ao q5) q j hq]
    exact mq q j (by omega) (by omega)
/-! P -/
theorem zero48 : ∀ (d y N : Nat) (x : gS), y + d = 48 → ∃ x', Arrays_fill_6L (N + d + 1) 0 y 48 x = some (0, x') ∧ (∀ i, y ≤ i → i < 48 → x' 36 i = 0) ∧ ∀ q, q ≠ 36 → x' q = x q := by
  intro d
  induction d with
  | zero =>
    intro y N x hy
    refine ⟨x, ?_, fun _ _ _ => by omega, fun _ _ => rfl⟩
    show Arrays_fill_6 _ _ _ _ _ = _
    unfold Arrays_fill_6
    rw [show y = 48 by omega, if_pos (by decide)]
  | succ d ih =>
    intro y N x hy
    have b2 : (0 : Int) ≤ (y : Int) ∧ (y : Int) < 48 := ⟨by omega, by omega⟩
    obtain ⟨x', i1, i2, i3⟩ := ih (y + 1) N (g_up x 36 y 0) (by omega)
    have keep : ∀ (d y N : Nat) (x x' : gS), y + d = 48 → Arrays_fill_6L (N + d + 1) 0 y 48 x = some (0, x') → ∀ i, i < y → x' 36 i = x 36 i := by
      intro d
      induction d with
      | zero =>
        intro y N x x' hy e i hi
        have e' : Arrays_fill_6 (Arrays_fill_6L (N + 0)) 0 y 48 x = some (0, x') := e
        unfold Arrays_fill_6 at e'
        rw [show y = 48 by omega, if_pos (by decide)] at e'
        rw [show x = x' from congrArg Prod.snd (Option.some.inj e')]
      | succ d ih2 =>
        intro y N x x' hy e i hi
        have e' : Arrays_fill_6 (Arrays_fill_6L (N + d + 1)) 0 y 48 x = some (0, x') := e
        unfold Arrays_fill_6 at e'
        rw [w_nat (by omega), if_neg (show ¬ w32 48 ≤ (y : Int) by rw [show w32 48 = 48 from rfl]; omega), if_pos ⟨by omega, by omega⟩, g_le_s, Int.toNat_natCast] at e'
        rw [ih2 (y + 1) N _ x' (by omega) e' i (by omega), up_n (by omega)]
    refine ⟨x', ?_, fun i a b => ?_, fun q hq => by rw [i3 q hq, g_up_ne hq]⟩
    · show Arrays_fill_6 (Arrays_fill_6L (N + d + 1)) _ _ _ _ = _
      unfold Arrays_fill_6
      rw [w_nat (by omega), if_neg (show ¬ w32 48 ≤ (y : Int) by rw [show w32 48 = 48 from rfl]; omega), if_pos b2, g_le_s, Int.toNat_natCast]
      exact i1
    · rcases (show i = y ∨ y + 1 ≤ i by omega) with rfl | q
      · rw [keep d (i + 1) N _ x' (by omega) i1 i (by omega), up_y]
      · exact i2 i q b
theorem clean_is (x : gS) : ∃ x', Pages_clean x = some (0, x') ∧ (∀ i, i < 48 → x' 36 i = 0) ∧ x' 34 = g_up x 34 3 0 34 ∧ ∀ q, q ≠ 36 → q ≠ 34 → x' q = x q := by
  obtain ⟨x', i1, i2, i3⟩ := zero48 48 0 (1000000000000 - 49) x (by omega)
  rw [show 1000000000000 - 49 + 48 + 1 = gFu from rfl] at i1
  refine ⟨g_up x' 34 3 0, ?_, fun i hi => by rw [g_up_ne (by decide)]; exact i2 i (by omega) hi, ?_, fun q a b => by rw [g_up_ne b, i3 q a]⟩
  · unfold Pages_clean Arrays_fill
    rw [show (0 : Int) = ((0 : Nat) : Int) from rfl] at i1 ⊢
    rw [i1, g_bi_s, g_le_s]
  · funext j
    rw [g_up_at, g_up_at, i3 34 (by decide)]
theorem keepM_loop {K : gS → gA} (hk : k < 8) : ∀ (d j N : Nat) (x : gS), j + d = 3072 → x 49 8 = k → (∀ i, i < 3072 → x 64 (24576 + i) = 0 ∨ x 64 (24576 + i) = 1) → ∃ x', M_state_367L K (N + d + 1) j x = K x' ∧ (∀ i, j ≤ i → i < 3072 → x' 64 (3072 * k + i) = x 64 (24576 + i) ∧ x' 64 (24576 + i) = 0) ∧ (∀ i, ¬ (3072 * k + j ≤ i ∧ i < 3072 * k + 3072) → ¬ (24576 + j ≤ i ∧ i < 27648) → x' 64 i = x 64 i) ∧ ∀ q, q ≠ 64 → x' q = x q := by
  intro d
  induction d with
  | zero =>
    intro j N x hj h8 h01
    refine ⟨x, ?_, fun _ _ _ => by omega, fun _ _ _ => rfl, fun _ _ => rfl⟩
    show M_state_367 _ K _ _ = _
    unfold M_state_367
    rw [show j = 3072 by omega, if_pos (by decide)]
  | succ d ih =>
    intro j N x hj h8 h01
    have b1 : (0 : Int) ≤ ((24576 + j : Nat) : Int) ∧ ((24576 + j : Nat) : Int) < 27648 := ⟨by omega, by omega⟩
    have b2 : (0 : Int) ≤ ((3072 * k + j : Nat) : Int) ∧ ((3072 * k + j : Nat) : Int) < 27648 := ⟨by omega, by omega⟩
    obtain ⟨x', i1, i2, i3, i4⟩ := ih (j + 1) N (g_up (g_up x 64 (3072 * k + j) (x 64 (24576 + j))) 64 (24576 + j) 0) (by omega) (by rw [g_up_ne (by decide), g_up_ne (by decide)]; exact h8) (fun i hi => by
      by_cases e : i = j
      · rw [e, up_y]; exact Or.inl rfl
      · rw [up_n (by omega), up_n (by omega)]; exact h01 i hi)
    refine ⟨x', ?_, fun i a b => ?_, fun i a b => ?_, fun q hq => by rw [i4 q hq, g_up_ne hq, g_up_ne hq]⟩
    · show M_state_367 (M_state_367L K (N + d + 1)) K _ _ = _
      unfold M_state_367
      rw [h8, show (24576 : Int) + j = ((24576 + j : Nat) : Int) by omega, show 3072 * (k : Int) + j = ((3072 * k + j : Nat) : Int) by omega, w_nat (show j < 2147483648 by omega), if_neg (by omega), w_nat (show 24576 + j < 2147483648 by omega), w_nat (show 3072 * k + j < 2147483648 by omega), if_pos b1, if_pos b2, g_le_s, if_pos b1, g_le_s, Int.toNat_natCast, Int.toNat_natCast, i_nar_01 (h01 j (by omega)), show i_nar .boolean 0 = 0 by decide]
      exact i1
    · rcases (show i = j ∨ j + 1 ≤ i by omega) with rfl | q
      · rw [i3 _ (by omega) (by omega), i3 _ (by omega) (by omega), up_n (by omega), up_y, up_y]
        exact ⟨rfl, rfl⟩
      · have := i2 i q b
        rw [this.1, this.2, up_n (by omega), up_n (by omega)]
        exact ⟨rfl, rfl⟩
    · rw [i3 i (by omega) (by omega), up_n (by omega), up_n (by omega)]
theorem keep_both' (hv : JV L n c m) (hm : JM l c m) (hp : JP s c m) (hg : JG k c m) (hk : k < 8) : ∃ c' m', Job_use 80 c = some (0, c') ∧ M_state 80 m = some (0, m') ∧ JV L n c' m' ∧ JM l c' m' ∧ JP 0 c' m' ∧ JG (k + 1) c' m' ∧ c' 17 = c 17 ∧ fC oC c c' ∧ fM oM m m' ∧ c' 20 = c 20 ∧ m' 53 = m 53 := by
  obtain ⟨j1, j2, j3, j4, j5, j6, j7, j8⟩ := id hg
  obtain ⟨c1, hc1⟩ : ∃ x, x = g_up (g_cp c 36 35 0 (48 * k) 48) 34 2 ((k : Int) + 1) := ⟨_, rfl⟩
  obtain ⟨c2, d1, d2, d3, d4⟩ := clean_is c1
  have cq : ∀ q, q ≠ 34 → q ≠ 35 → q ≠ 36 → c2 q = c q := fun q a b e => by rw [d4 q e a, hc1, g_up_ne a, g_cp_ne b]
  have c35 : ∀ j, c2 35 j = if 48 * k ≤ j ∧ j < 48 * k + 48 then c 36 (j - 48 * k) else c 35 j := fun j => by
    rw [d4 35 (by decide) (by decide), hc1, g_up_ne (by decide)]
    show (if 35 = 35 ∧ 48 * k ≤ j ∧ j < 48 * k + 48 then c 36 (0 + (j - 48 * k)) else c 35 j) = _
    rw [Nat.zero_add]
    by_cases q : 48 * k ≤ j ∧ j < 48 * k + 48
    · rw [if_pos q, if_pos ⟨rfl, q⟩]
    · rw [if_neg q, if_neg (fun x => q x.2)]
  have c34 : c2 34 2 = (k : Int) + 1 ∧ c2 34 3 = 0 := by
    rw [d3, hc1, up_n (by decide), up_y, up_y]
    exact ⟨rfl, rfl⟩
  obtain ⟨m2, f1, f2, f3, f4⟩ := keepM_loop (K := M_state_420) hk 3072 0 (1000000000000 - 3073) m (by omega) j3 (fun i hi => j7.b01 hi)
  rw [show 1000000000000 - 3073 + 3072 + 1 = gFu from rfl, show ((0 : Nat) : Int) = 0 from rfl] at f1
  obtain ⟨m3, hm3⟩ : ∃ x, x = g_up (g_up m2 49 8 ((k : Int) + 1)) 49 36 0 := ⟨_, rfl⟩
  have mq : ∀ q j, q ≠ 64 → ¬ (q = 49 ∧ (j = 8 ∨ j = 36)) → m3 q j = m q j := fun q j a b => by
    rw [hm3, up_n (by omega), up_n (by omega), f4 q a]
  have m49 : ∀ j, j ≠ 8 → j ≠ 36 → m3 49 j = m 49 j := fun j a b => mq 49 j (by decide) (by omega)
  have hp2 : JP s c2 m3 := JP_congr (cq _ (by decide) (by decide) (by decide)) (cq _ (by decide) (by decide) (by decide)) (cq _ (by decide) (by decide) (by decide)) (cq _ (by decide) (by decide) (by decide)) (fun j a b => m49 j (by omega) (by omega)) (funext fun j => mq 59 j (by decide) (by omega)) (funext fun j => mq 60 j (by decide) (by omega)) (funext fun j => mq 61 j (by decide) (by omega)) hp
  obtain ⟨c3, m4, q1, q2, q3, q4, q5⟩ := clear_both hp2
  have hc18 : c3 18 1 = n := by rw [q4 18 rfl, cq _ (by decide) (by decide) (by decide)]; exact hv.2.2.1
  have e64 : ∀ j, m4 64 j = m2 64 j := fun j => by rw [q5 64 j rfl, hm3, g_up_ne (by decide), g_up_ne (by decide)]
  refine ⟨c3, m4, ?_, ?_, ?_, ?_, q3, ⟨by omega, ?_, ?_, ?_, ?_, ?_, fun y hy x hx => ?_, fun p hpk y hy x hx => ?_⟩, ?_, ?_, ?_, by rw [q4 20 rfl, cq 20 (by decide) (by decide) (by decide)], funext fun j => by rw [q5 53 j rfl]; exact mq 53 j (by decide) (by omega)⟩
  · unfold Job_use
    simp (decide := true) only [if_false, if_true]
    unfold Pages_keep
    rw [j2, show (k : Int) * 48 = ((48 * k : Nat) : Int) by omega, w_nat (show k < 2147483648 by omega), if_neg (by omega), w_nat (show 48 * k < 2147483648 by omega), if_pos ⟨by omega, by omega, by omega, by omega, by omega⟩, g_le_s, g_le_s, Int.toNat_natCast, g_cp_ne (show 34 ≠ 35 by decide), j2, ← hc1, d1, g_bi_s, g_bi_s, q1, g_bi_s, use_0 hc18 hv.2.1 (by decide) (by decide)]
  · unfold M_state
    rw [if_neg (by decide), if_neg (by decide), if_neg (by decide), if_neg (by decide), if_neg (by decide)]
    have e : M_state_420 m2 = some (0, m4) := by
      unfold M_state_420
      rw [g_le_s, g_le_s, f4 49 (by decide), j3, ← hm3, q2, g_bi_s]
    exact f1.trans e
  · exact JV_congr (by rw [q4 18 rfl, cq _ (by decide) (by decide) (by decide)]) (by rw [q4 19 rfl, cq _ (by decide) (by decide) (by decide)]) (by rw [q5 49 13 rfl]; exact m49 13 (by decide) (by decide)) (funext fun j => by rw [q5 52 j rfl]; exact mq 52 j (by decide) (by omega)) (funext fun j => by rw [q5 54 j rfl]; exact mq 54 j (by decide) (by omega)) (funext fun j => by rw [q5 51 j rfl]; exact mq 51 j (by decide) (by omega)) hv
  · exact JM_congr (by rw [q4 21 rfl, cq _ (by decide) (by decide) (by decide)]) (by rw [q4 22 rfl, cq _ (by decide) (by decide) (by decide)]) (by rw [q4 23 rfl, cq _ (by decide) (by decide) (by decide)]) (by rw [q4 24 rfl, cq _ (by decide) (by decide) (by decide)]) (by rw [q4 25 rfl, cq _ (by decide) (by decide) (by decide)]) (by rw [q4 26 rfl, cq _ (by decide) (by decide) (by decide)]) (by rw [q4 27 rfl, cq _ (by decide) (by decide) (by decide)]) (by rw [q5 49 32 rfl]; exact m49 32 (by decide) (by decide)) (funext fun j => by rw [q5 62 j rfl]; exact mq 62 j (by decide) (by omega)) (funext fun j => by rw [q5 63 j rfl]; exact mq 63 j (by decide) (by omega)) hm
  · rw [q4 34 rfl, c34.1]; rfl
  · rw [q5 49 8 rfl, hm3, up_n (by decide), up_y]; rfl
  · rw [q4 34 rfl, c34.2, q5 49 36 rfl, hm3, up_y]
  · rw [q5 49 36 rfl, hm3, up_y]; exact Int.le_refl 0
  · rw [q5 49 36 rfl, hm3, up_y]; decide
  · show m4 64 (24576 + (64 * y + x)) = if lb (c3 36 y) (63 - x) then 1 else 0
    rw [e64, (f2 (64 * y + x) (by omega) (by omega)).2, q4 36 rfl, d2 y hy, lb_0]
    rfl
  · show m4 64 (3072 * p + (64 * y + x)) = if lb (c3 35 (48 * p + y)) (63 - x) then 1 else 0
    rw [e64, q4 35 rfl, c35]
    rcases (show p = k ∨ p < k by omega) with rfl | hpk2
    · rw [if_pos (show 48 * p ≤ 48 * p + y ∧ 48 * p + y < 48 * p + 48 by omega), show 48 * p + y - 48 * p = y by omega, (f2 (64 * y + x) (by omega) (by omega)).1]
      exact j7 y hy x hx
    · rw [if_neg (show ¬ (48 * k ≤ 48 * p + y ∧ 48 * p + y < 48 * k + 48) by omega), f3 _ (by omega) (by omega)]
      exact j8 p hpk2 y hy x hx
  · rw [q4 17 rfl, cq 17 (by decide) (by decide) (by decide)]
  · intro q hq
    have := oC_of hq
    rw [(fC_ao q4) q hq, cq q (by omega) (by omega) (by omega)]
  · intro q j hq
    have := oM_of hq
    rw [(fM_ao q5) q j hq]
    exact mq q j (by omega) (by omega)
end PG

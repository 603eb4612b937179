/-! dots and paint -/
def nib (a b c d : Bool) : Int := l_or (l_shl (l_or (l_shl (l_or (l_shl (l_or (l_shl 0 1) (if a then 1 else 0)) 1) (if b then 1 else 0)) 1) (if c then 1 else 0)) 1) (if d then 1 else 0)
theorem nib_4 (a b c d : Bool) : ∀ i : Fin 16, ∀ r : Fin 4, lb (nib a b c d * 1229782938247303441) (63 - (4 * (i : Nat) + (r : Nat))) = (if (r : Nat) = 0 then a else if (r : Nat) = 1 then b else if (r : Nat) = 2 then c else d) := by
  cases a <;> cases b <;> cases c <;> cases d <;> decide
theorem nib_bit (a b c d : Bool) {x : Nat} (hx : x < 64) : lb (nib a b c d * 1229782938247303441) (63 - x) = (if x % 4 = 0 then a else if x % 4 = 1 then b else if x % 4 = 2 then c else d) := by
  have := nib_4 a b c d ⟨x / 4, by omega⟩ ⟨x % 4, by omega⟩
  simp only at this
  rw [show 4 * (x / 4) + x % 4 = x by omega] at this
  exact this
section PT
variable {n l k s L : Nat} {X Y B C : Nat → Int} {c c' m m' : gS} {odd g : Int}
theorem dots_step {K : Int → Int → Int → Int → gS → gA} {v : Int} {y i : Nat} (hy : y < 48) (hi : i < 4) (h0 : 0 ≤ g) (h1 : g ≤ 16) : Pages_dots_5 K y g v i c = K y g (l_or (l_shl v 1) (if decide (cl i y < g) then 1 else 0)) ((i + 1 : Nat) : Int) c := by
  have e := cl_ce ⟨y % 4, by omega⟩ ⟨i, hi⟩
  have e2 := cl_mod i y
  have b := cl_bd i y
  rw [show i % 4 = i by omega] at e2
  have e3 : g_ce (y % 4 * 4 + i) = cl i y := by rw [e2]; exact e
  unfold Pages_dots_5 Pages_dots_35
  rw [i_rem_nn (by omega) (by omega) (by decide) (by decide), show (y : Int) % 4 * 4 + i = ((y % 4 * 4 + i : Nat) : Int) by omega, w_nat (show i < 2147483648 by omega), if_neg (by omega), w_nat (by omega), if_pos ⟨by omega, by omega⟩, Int.toNat_natCast, e3, w32_id (z := g) (by omega) (by omega), w32_id (z := cl i y) (by omega) (by omega)]
  by_cases q : g ≤ cl i y
  · rw [if_pos q, g_le_s, decide_eq_false (by omega)]
    rfl
  · rw [if_neg q, g_le_s, decide_eq_true (by omega)]
    rfl
theorem dots_is {y : Nat} (hy : y < 48) (h0 : 0 ≤ g) (h1 : g ≤ 16) : ∃ D, Pages_dots y g c = some (D, c) ∧ ∀ x, x < 64 → lb D (63 - x) = decide (cl x y < g) := by
  refine ⟨nib (decide (cl 0 y < g)) (decide (cl 1 y < g)) (decide (cl 2 y < g)) (decide (cl 3 y < g)) * 1229782938247303441, ?_, fun x hx => ?_⟩
  · unfold Pages_dots
    rw [show gFu = 999999999995 + 1 + 1 + 1 + 1 + 1 from rfl]
    show Pages_dots_5 (Pages_dots_5 (Pages_dots_5 (Pages_dots_5 (Pages_dots_5 (Pages_dots_5L 999999999995))))) y g 0 ((0 : Nat) : Int) c = _
    rw [dots_step hy (by decide) h0 h1, dots_step hy (by decide) h0 h1, dots_step hy (by decide) h0 h1, dots_step hy (by decide) h0 h1]
    unfold Pages_dots_5
    rw [if_pos (by decide)]
    rfl
  · rw [nib_bit _ _ _ _ hx, cl_mod x y, show cl 0 y = cl 0 (y % 4) from cl_mod 0 y, show cl 1 y = cl 1 (y % 4) from cl_mod 1 y, show cl 2 y = cl 2 (y % 4) from cl_mod 2 y, show cl 3 y = cl 3 (y % 4) from cl_mod 3 y]
    rcases (show x % 4 = 0 ∨ x % 4 = 1 ∨ x % 4 = 2 ∨ x % 4 = 3 by omega) with e | e | e | e <;> rw [e] <;> rfl
theorem cell_is {x y : Nat} (hx : x < 64) (hy : y < 64) : M_cell x y m = some (cl x y, m) := by
  have a1 := i_and1' y
  have a2 := i_and1' x
  have a3 := i_and2 hy
  have a4 := i_and2 hx
  unfold M_cell M_cell_31 M_cell_63 cl
  by_cases q1 : y % 2 = 0 <;> by_cases q2 : x % 2 = 0 <;> by_cases q3 : y / 2 % 2 = 0 <;> by_cases q4 : x / 2 % 2 = 0 <;> simp only [a1, a2, a3, a4, q1, q2, q3, q4, if_true, if_false]
theorem paint_loop (g0 : 0 ≤ g) (g1 : g ≤ 16) : ∀ (d y N : Nat) (c : gS), y + d = 48 → JM l c m → c 26 l = g → TRd X Y B n odd c 48 → ∃ c', Pages_paint_16L (N + d + 1) y c = some (0, c') ∧ (∀ y', y ≤ y' → y' < 48 → ∀ x, x < 64 → lb (c' 36 y') (63 - x) = if gin (m 63) X Y B n odd y' x then decide (cl x y' < g) else lb (c 36 y') (63 - x)) ∧ (∀ y', y' < y → c' 36 y' = c 36 y') ∧ ∀ q, q ≠ 36 → c' q = c q := by
  intro d
  induction d with
  | zero =>
    intro y N c hy hm hg ht
    refine ⟨c, ?_, fun y' a b => by omega, fun _ _ => rfl, fun _ _ => rfl⟩
    show Pages_paint_16 _ _ _ = _
    unfold Pages_paint_16
    rw [show y = 48 by omega, if_pos (by decide)]
  | succ d ih =>
    intro y N c hy hm hg ht
    obtain ⟨D, d1, d2⟩ := dots_is (c := c) (g := g) (y := y) (by omega) g0 g1
    obtain ⟨v, hv⟩ : ∃ v, v = l_or (l_and (c 36 y) (l_xor (pl c l y) (-1))) (l_and (pl c l y) D) := ⟨_, rfl⟩
    have n36 : ∀ q, q ≠ 36 → g_up c 36 y v q = c q := fun q hq => g_up_ne hq
    obtain ⟨c', i1, i2, i3, i4⟩ := ih (y + 1) N (g_up c 36 y v) (by omega) (JM_congr (by rw [n36 _ (by decide)]) (n36 _ (by decide)) (n36 _ (by decide)) (n36 _ (by decide)) (n36 _ (by decide)) (n36 _ (by decide)) (n36 _ (by decide)) rfl rfl rfl hm) (by rw [n36 _ (by decide)]; exact hg) (by unfold TRd; rw [n36 _ (by decide)]; exact ht)
    have by_ : (0 : Int) ≤ (y : Int) ∧ (y : Int) < 48 := ⟨by omega, by omega⟩
    refine ⟨c', ?_, fun y' a b x hx => ?_, fun y' hy' => ?_, fun q hq => by rw [i4 q hq, n36 q hq]⟩
    · show Pages_paint_16 (Pages_paint_16L (N + d + 1)) _ _ = _
      unfold Pages_paint_16 Settings_greyNow
      have lv := hm.lv
      rw [w_nat (by omega), if_neg (by omega), if_pos by_, clip_is hm (by omega), g_bi_s, g_le_s, if_pos by_, if_pos ⟨lv.1, lv.2.1⟩, g_bi_s, lv.2.2, hg, d1, g_bi_s, if_pos by_, g_le_s, Int.toNat_natCast]
      show Pages_paint_16L (N + d + 1) _ (g_up c 36 y (l_or (l_and (c 36 y) (l_xor (pl c l y) (-1))) (l_and (pl c l y) D))) = _
      rw [← hv]
      exact i1
    · rcases (show y' = y ∨ y + 1 ≤ y' by omega) with rfl | q
      · rw [i3 y' (by omega), up_y, hv, lb_or, lb_and, lb_not _ (by omega), lb_and, d2 x hx, pl_bit hm ht (by omega) hx]
        cases gin (m 63) X Y B n odd y' x <;> simp
      · rw [i2 y' q b x hx, up_n (by omega)]
    · rw [i3 y' (by omega), up_n (by omega)]
def oC (q : Nat) : Bool := decide (15 ≤ q) && decide (q ≤ 36)
def oM (q k : Nat) : Bool := (decide (q = 49) && (decide (k = 8) || decide (k = 13) || (decide (22 ≤ k) && decide (k ≤ 28)) || decide (k = 32) || decide (k = 36))) || (decide (52 ≤ q) && decide (q ≤ 54)) || (decide (59 ≤ q) && decide (q ≤ 65))
theorem fill_loop {G : Nat → Nat → Bool} (g0 : 0 ≤ g) (g1 : g ≤ 16) : ∀ (d j N : Nat) (m : gS), j + d = 3072 → m 62 4 = g → (∀ i, i < 3072 → m 65 i = bi (G (i / 64) (i % 64))) → ∃ m', M_fill_16L (N + d + 1) j m = g_bi (M_noPath m') (fun _ s8 => some (0, s8)) ∧ (∀ i, j ≤ i → i < 3072 → m' 64 (24576 + i) = if G (i / 64) (i % 64) then (if cl (i % 64) (i / 64) < g then 1 else 0) else m 64 (24576 + i)) ∧ (∀ i, ¬ (24576 + j ≤ i ∧ i < 27648) → m' 64 i = m 64 i) ∧ ∀ q, q ≠ 64 → m' q = m q := by
  intro d
  induction d with
  | zero =>
    intro j N m hj hg hG
    refine ⟨m, ?_, fun i a b => by omega, fun _ _ => rfl, fun _ _ => rfl⟩
    show M_fill_16 _ _ _ = _
    unfold M_fill_16
    rw [show j = 3072 by omega, if_pos (by decide)]
  | succ d ih =>
    intro j N m hj hg hG
    have bj : (0 : Int) ≤ (j : Int) ∧ (j : Int) < 3072 := ⟨by omega, by omega⟩
    have hb := cl_bd (j % 64) (j / 64)
    have e16 : ∀ m1 : gS, M_fill_16 (M_fill_16L (N + d + 1)) j m1 = if 3072 ≤ w32 (j : Int) then (g_bi (M_noPath m1) fun _ s8 => some (0, s8)) else (if 0 ≤ w32 (j : Int) ∧ w32 (j : Int) < 3072 then (if w32 (m1 65 (w32 (j : Int)).toNat) = 0 then (M_fill_67 (M_fill_16L (N + d + 1)) j m1) else (g_bi (M_cell (i_rem j 64) (i_div j 64) m1) fun r14 s15 => (if w32 (s15 62 4) ≤ w32 r14 then (M_fill_66 (M_fill_16L (N + d + 1)) j (24576 + j) 0 s15) else (M_fill_66 (M_fill_16L (N + d + 1)) j (24576 + j) 1 s15)))) else none) := fun _ => rfl
    have stp : M_fill_16 (M_fill_16L (N + d + 1)) j m = M_fill_16L (N + d + 1) ((j + 1 : Nat) : Int) (if G (j / 64) (j % 64) then g_up m 64 (24576 + j) (if cl (j % 64) (j / 64) < g then 1 else 0) else m) := by
      rw [e16, w_nat (by omega), if_neg (by omega), if_pos bj, Int.toNat_natCast, hG j (by omega), w32_01 (bi_01 _)]
      cases G (j / 64) (j % 64) with
      | false =>
        rw [show bi false = 0 from rfl, if_pos rfl, if_neg (by decide)]
        rfl
      | true =>
        rw [show bi true = 1 from rfl, if_neg (by decide), if_pos rfl, i_rem_nn (by omega) (by omega) (by decide) (by decide), i_div_nn (by omega) (by omega) (by decide) (by decide), show (j : Int) % 64 = ((j % 64 : Nat) : Int) by omega, show (j : Int) / 64 = ((j / 64 : Nat) : Int) by omega, cell_is (by omega) (by omega), g_bi_s, hg, w32_id (z := g) (by omega) (by omega), w32_id (z := cl (j % 64) (j / 64)) (by omega) (by omega)]
        have bb : (0 : Int) ≤ ((24576 + j : Nat) : Int) ∧ ((24576 + j : Nat) : Int) < 27648 := ⟨by omega, by omega⟩
        have wj : 24576 + j < 2147483648 := by omega
        unfold M_fill_66 M_fill_67
        by_cases q : g ≤ cl (j % 64) (j / 64)
        · rw [if_pos q, if_neg (show ¬ cl (j % 64) (j / 64) < g by omega), show (24576 : Int) + j = ((24576 + j : Nat) : Int) by omega, w_nat wj, if_pos bb, g_le_s, Int.toNat_natCast, show i_nar .boolean 0 = 0 by decide]
          rfl
        · rw [if_neg q, if_pos (show cl (j % 64) (j / 64) < g by omega), show (24576 : Int) + j = ((24576 + j : Nat) : Int) by omega, w_nat wj, if_pos bb, g_le_s, Int.toNat_natCast, show i_nar .boolean 1 = 1 by decide]
          rfl
    have n64 : ∀ q, q ≠ 64 → (if G (j / 64) (j % 64) then g_up m 64 (24576 + j) (if cl (j % 64) (j / 64) < g then 1 else 0) else m) q = m q := by
      intro q hq
      split
      · exact g_up_ne hq
      · rfl
    have o64 : ∀ i, i ≠ 24576 + j → (if G (j / 64) (j % 64) then g_up m 64 (24576 + j) (if cl (j % 64) (j / 64) < g then 1 else 0) else m) 64 i = m 64 i := by
      intro i hi
      split
      · exact up_n (fun x => hi x.2)
      · rfl
    have y64 : (if G (j / 64) (j % 64) then g_up m 64 (24576 + j) (if cl (j % 64) (j / 64) < g then 1 else 0) else m) 64 (24576 + j) = if G (j / 64) (j % 64) then (if cl (j % 64) (j / 64) < g then 1 else 0) else m 64 (24576 + j) := by
      cases G (j / 64) (j % 64) with
      | false => rw [if_neg (by decide), if_neg (by decide)]
      | true => rw [if_pos rfl, if_pos rfl, up_y]
    generalize (if G (j / 64) (j % 64) then g_up m 64 (24576 + j) (if cl (j % 64) (j / 64) < g then 1 else 0) else m) = x at stp n64 o64 y64
    obtain ⟨m', i1, i2, i3, i4⟩ := ih (j + 1) N x (by omega) (by rw [n64 _ (by decide)]; exact hg) (fun i hi => by rw [n64 _ (by decide)]; exact hG i hi)
    refine ⟨m', ?_, fun i a b => ?_, fun i hi => ?_, fun q hq => by rw [i4 q hq, n64 q hq]⟩
    · show M_fill_16 (M_fill_16L (N + d + 1)) _ _ = _
      rw [stp]
      exact i1
    · rcases (show i = j ∨ j + 1 ≤ i by omega) with rfl | q
      · rw [i3 _ (by omega), y64]
      · rw [i2 i q b, o64 (24576 + i) (by omega)]
    · rw [i3 i (by omega), o64 i (by omega)]
end PT

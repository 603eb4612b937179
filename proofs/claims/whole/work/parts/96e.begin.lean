/-! what a start lays anew -/
section BG
variable {L : Nat} {c m c' m' : gS}
theorem f20 : ∀ (d i N : Nat) (x : gS), i + d = 26 → ∃ x', Arrays_fill1_5L (N + d + 1) 0 i 26 x = some (0, x') ∧ (∀ j, i ≤ j → j < 26 → x' 20 j = 0) ∧ (∀ j, j < i → x' 20 j = x 20 j) ∧ ∀ q, q ≠ 20 → x' q = x q := by
  intro d
  induction d with
  | zero =>
    intro i N x hi
    refine ⟨x, ?_, fun _ _ _ => by omega, fun _ _ => rfl, fun _ _ => rfl⟩
    show Arrays_fill1_5 _ _ _ _ _ = _
    unfold Arrays_fill1_5
    rw [show i = 26 by omega, if_pos (by decide)]
  | succ d ih =>
    intro i N x hi
    have b1 : (0 : Int) ≤ (i : Int) ∧ (i : Int) < 26 := ⟨by omega, by omega⟩
    obtain ⟨x', i1, i2, i3, i4⟩ := ih (i + 1) N (g_up x 20 i 0) (by omega)
    refine ⟨x', ?_, fun j a b => ?_, fun j hj => by rw [i3 j (by omega), up_n (by omega)], fun q hq => by rw [i4 q hq, g_up_ne hq]⟩
    · show Arrays_fill1_5 (Arrays_fill1_5L (N + d + 1)) _ _ _ _ = _
      unfold Arrays_fill1_5
      rw [w_nat (by omega), if_neg (show ¬ w32 26 ≤ (i : Int) by rw [show w32 26 = 26 from rfl]; omega), if_pos b1, g_le_s, Int.toNat_natCast]
      exact i1
    · rcases (show j = i ∨ i + 1 ≤ j by omega) with rfl | q
      · rw [i3 j (by omega), up_y]
      · exact i2 j q b
theorem f27 : ∀ (d i N : Nat) (x : gS), i + d = 240 → ∃ x', Arrays_fill_b_6L (N + d + 1) (-1) i 240 x = some (0, x') ∧ (∀ j, i ≤ j → j < 240 → x' 27 j = -1) ∧ (∀ j, j < i → x' 27 j = x 27 j) ∧ ∀ q, q ≠ 27 → x' q = x q := by
  intro d
  induction d with
  | zero =>
    intro i N x hi
    refine ⟨x, ?_, fun _ _ _ => by omega, fun _ _ => rfl, fun _ _ => rfl⟩
    show Arrays_fill_b_6 _ _ _ _ _ = _
    unfold Arrays_fill_b_6
    rw [show i = 240 by omega, if_pos (by decide)]
  | succ d ih =>
    intro i N x hi
    have b1 : (0 : Int) ≤ (i : Int) ∧ (i : Int) < 240 := ⟨by omega, by omega⟩
    obtain ⟨x', i1, i2, i3, i4⟩ := ih (i + 1) N (g_up x 27 i (-1)) (by omega)
    refine ⟨x', ?_, fun j a b => ?_, fun j hj => by rw [i3 j (by omega), up_n (by omega)], fun q hq => by rw [i4 q hq, g_up_ne hq]⟩
    · show Arrays_fill_b_6 (Arrays_fill_b_6L (N + d + 1)) _ _ _ _ = _
      unfold Arrays_fill_b_6
      rw [w_nat (by omega), if_neg (show ¬ w32 240 ≤ (i : Int) by rw [show w32 240 = 240 from rfl]; omega), if_pos b1, g_le_s, Int.toNat_natCast]
      exact i1
    · rcases (show j = i ∨ i + 1 ≤ j by omega) with rfl | q
      · rw [i3 j (by omega), up_y]
      · exact i2 j q b
theorem f39 : ∀ (d i N : Nat) (x : gS), i + d = 32 → ∃ x', Order_begin_32L (N + d + 1) i x = some (0, x') ∧ (∀ j, i ≤ j → j < 32 → x' 39 j = 0) ∧ (∀ j, j < i → x' 39 j = x 39 j) ∧ ∀ q, q ≠ 39 → x' q = x q := by
  intro d
  induction d with
  | zero =>
    intro i N x hi
    refine ⟨x, ?_, fun _ _ _ => by omega, fun _ _ => rfl, fun _ _ => rfl⟩
    show Order_begin_32 _ _ _ = _
    unfold Order_begin_32
    rw [show i = 32 by omega, if_pos (by decide)]
  | succ d ih =>
    intro i N x hi
    have b1 : (0 : Int) ≤ (i : Int) ∧ (i : Int) < 32 := ⟨by omega, by omega⟩
    obtain ⟨x', i1, i2, i3, i4⟩ := ih (i + 1) N (g_up x 39 i 0) (by omega)
    refine ⟨x', ?_, fun j a b => ?_, fun j hj => by rw [i3 j (by omega), up_n (by omega)], fun q hq => by rw [i4 q hq, g_up_ne hq]⟩
    · show Order_begin_32 (Order_begin_32L (N + d + 1)) _ _ = _
      unfold Order_begin_32
      rw [w_nat (by omega), if_neg (by omega), if_pos b1, g_le_s, Int.toNat_natCast, show i_nar .boolean 0 = 0 by decide]
      exact i1
    · rcases (show j = i ∨ i + 1 ≤ j by omega) with rfl | q
      · rw [i3 j (by omega), up_y]
      · exact i2 j q b
theorem f51 {K : Int → Int → Int → gS → gA} {a1 a2 a3 : Int} (hL : L ≤ 300) : ∀ (d i N : Nat) (x : gS), i + d = L → x 49 4 = L → ∃ x', M_start_86L K (N + d + 1) a1 a2 a3 i x = K a1 a2 a3 x' ∧ (∀ j, i ≤ j → j < L → x' 51 j = x 50 j) ∧ (∀ j, j < i → x' 51 j = x 51 j) ∧ ∀ q, q ≠ 51 → x' q = x q := by
  intro d
  induction d with
  | zero =>
    intro i N x hi h4
    refine ⟨x, ?_, fun _ _ _ => by omega, fun _ _ => rfl, fun _ _ => rfl⟩
    show M_start_86 _ K _ _ _ _ _ = _
    unfold M_start_86
    rw [h4, show i = L by omega, if_pos (Int.le_refl _)]
  | succ d ih =>
    intro i N x hi h4
    have b1 : (0 : Int) ≤ (i : Int) ∧ (i : Int) < 300 := ⟨by omega, by omega⟩
    obtain ⟨x', i1, i2, i3, i4⟩ := ih (i + 1) N (g_up x 51 i (x 50 i)) (by omega) (by rw [g_up_ne (by decide)]; exact h4)
    refine ⟨x', ?_, fun j a b => ?_, fun j hj => by rw [i3 j (by omega), up_n (by omega)], fun q hq => by rw [i4 q hq, g_up_ne hq]⟩
    · show M_start_86 (M_start_86L K (N + d + 1)) K _ _ _ _ _ = _
      unfold M_start_86
      rw [h4, w_nat (show L < 2147483648 by omega), w_nat (show i < 2147483648 by omega), if_neg (by omega), if_pos b1, if_pos b1, g_le_s, Int.toNat_natCast]
      exact i1
    · rcases (show j = i ∨ i + 1 ≤ j by omega) with rfl | q
      · rw [i3 j (by omega), up_y]
      · rw [i2 j q b, g_up_ne (by decide)]
theorem f53 {K : gS → gA} : ∀ (d i N : Nat) (x : gS), i + d = 26 → ∃ x', M_start_183L K (N + d + 1) i x = K x' ∧ (∀ j, i ≤ j → j < 26 → x' 53 j = 0) ∧ (∀ j, j < i → x' 53 j = x 53 j) ∧ ∀ q, q ≠ 53 → x' q = x q := by
  intro d
  induction d with
  | zero =>
    intro i N x hi
    refine ⟨x, ?_, fun _ _ _ => by omega, fun _ _ => rfl, fun _ _ => rfl⟩
    show M_start_183 _ K _ _ = _
    unfold M_start_183
    rw [show i = 26 by omega, if_pos (by decide)]
  | succ d ih =>
    intro i N x hi
    have b1 : (0 : Int) ≤ (i : Int) ∧ (i : Int) < 26 := ⟨by omega, by omega⟩
    obtain ⟨x', i1, i2, i3, i4⟩ := ih (i + 1) N (g_up x 53 i 0) (by omega)
    refine ⟨x', ?_, fun j a b => ?_, fun j hj => by rw [i3 j (by omega), up_n (by omega)], fun q hq => by rw [i4 q hq, g_up_ne hq]⟩
    · show M_start_183 (M_start_183L K (N + d + 1)) K _ _ = _
      unfold M_start_183
      rw [w_nat (by omega), if_neg (by omega), if_pos b1, g_le_s, Int.toNat_natCast]
      exact i1
    · rcases (show j = i ∨ i + 1 ≤ j by omega) with rfl | q
      · rw [i3 j (by omega), up_y]
      · exact i2 j q b
def st9 (x : gS) : gA := g_le (g_up x 49 17 0) fun s67 => g_bi (M_enter 0 (s67 49 4) (-1) s67) fun _ s70 => (some (0, s70))
theorem f63 : ∀ (d i N : Nat) (x : gS), i + d = 3072 → ∃ x', M_start_249L (N + d + 1) i x = st9 x' ∧ (∀ j, i ≤ j → j < 3072 → x' 63 j = 1 ∧ x' 64 (24576 + j) = 0) ∧ (∀ j, j < i → x' 63 j = x 63 j ∧ x' 64 (24576 + j) = x 64 (24576 + j)) ∧ ∀ q, q ≠ 63 → q ≠ 64 → x' q = x q := by
  intro d
  induction d with
  | zero =>
    intro i N x hi
    refine ⟨x, ?_, fun _ _ _ => by omega, fun _ _ => ⟨rfl, rfl⟩, fun _ _ _ => rfl⟩
    show M_start_249 _ _ _ = _
    unfold M_start_249 st9
    rw [show i = 3072 by omega, if_pos (by decide)]
  | succ d ih =>
    intro i N x hi
    have b1 : (0 : Int) ≤ (i : Int) ∧ (i : Int) < 15360 := ⟨by omega, by omega⟩
    have b2 : (0 : Int) ≤ ((24576 + i : Nat) : Int) ∧ ((24576 + i : Nat) : Int) < 27648 := ⟨by omega, by omega⟩
    obtain ⟨x', i1, i2, i3, i4⟩ := ih (i + 1) N (g_up (g_up x 63 i 1) 64 (24576 + i) 0) (by omega)
    refine ⟨x', ?_, fun j a b => ?_, fun j hj => ?_, fun q hq hq2 => by rw [i4 q hq hq2, g_up_ne hq2, g_up_ne hq]⟩
    · show M_start_249 (M_start_249L (N + d + 1)) _ _ = _
      unfold M_start_249
      rw [show (24576 : Int) + i = ((24576 + i : Nat) : Int) by omega, w_nat (show i < 2147483648 by omega), w_nat (show 24576 + i < 2147483648 by omega), if_neg (by omega), if_pos b1, g_le_s, if_pos b2, g_le_s, Int.toNat_natCast, Int.toNat_natCast, show i_nar .boolean 0 = 0 by decide, show i_nar .boolean 1 = 1 by decide]
      exact i1
    · rcases (show j = i ∨ i + 1 ≤ j by omega) with rfl | q
      · obtain ⟨y1, y2⟩ := i3 j (by omega)
        rw [y1, y2, g_up_ne (show 63 ≠ 64 by decide), up_y, up_y]
        exact ⟨rfl, rfl⟩
      · exact i2 j q b
    · obtain ⟨y1, y2⟩ := i3 j (by omega)
      rw [y1, y2, g_up_ne (show 63 ≠ 64 by decide), up_n (by omega), up_n (by omega), g_up_ne (show 64 ≠ 63 by decide)]
      exact ⟨rfl, rfl⟩
theorem brc_tr {f g : Nat → Int} (h : ∀ j, j < L → f j = g j) {j q : Nat} (hq : q < L) (b : brc g j q) : brc f j q := by
  obtain ⟨b1, b2, b3, b4, b5⟩ := b
  have d := dep_congr h
  refine ⟨b1, by rw [h j (by omega)]; exact b2, by rw [h q hq]; exact b3, by rw [d (q + 1) (by omega), d j (by omega)]; exact b4, fun k k1 k2 => ?_⟩
  rw [d j (by omega), d k (by omega)]
  exact b5 k k1 k2
/-- the class's calls when a job begins -/
theorem calls_begin (hs : JS L c m) : ∃ c', Calls_begin c = some (0, c') ∧ (skp (m 51) L 0 < L → c' 10 4 = 0 ∧ c' 11 0 = (skp (m 51) L 0 : Int) ∧ c' 12 0 = 0 ∧ c' 13 0 = L ∧ c' 14 0 = 0) ∧ (¬ skp (m 51) L 0 < L → c' 10 4 = -1) ∧ fC nC c c' := by
  have g := hs.2.2.1
  have hL := g.le
  obtain ⟨c1, hc1⟩ : ∃ x, x = g_up (g_up (g_up (g_up (g_up (g_up c 10 4 (-1)) 10 4 (-1 + 1)) 11 0 0) 12 0 0) 13 0 L) 14 0 0 := ⟨_, rfl⟩
  have f1 : fC nC c c1 := by
    rw [hc1]
    (iterate 6 refine fC_tr ?_ (fC_up rfl))
    exact fC_rf _ _
  have hs1 : JS L c1 m := JS_congr (by rw [f1 6 rfl]) (f1 7 rfl) (f1 8 rfl) rfl rfl hs
  have v : c1 10 4 = 0 ∧ c1 11 0 = ((0 : Nat) : Int) ∧ c1 12 0 = ((0 : Nat) : Int) ∧ c1 13 0 = L ∧ c1 14 0 = 0 := by
    rw [hc1]
    simp (disch := decide) only [g_up_ne, up_y]
    exact ⟨rfl, rfl, rfl, trivial, trivial⟩
  have eP : Calls_push 0 (g_up c 10 4 (-1) 6 3) 0 (g_up c 10 4 (-1)) = some (0, c1) := by
    unfold Calls_push
    have w0 : w32 (-1 + 1) = 0 := by decide
    have b0 : (0 : Int) ≤ 0 ∧ (0 : Int) < 21 := by decide
    rw [up_y, if_neg (by decide), g_le_s, up_y, w0, if_pos b0, g_le_s, g_up_ne (by decide), up_y, w0, if_pos b0, g_le_s, g_up_ne (by decide), g_up_ne (by decide), up_y, w0, if_pos b0, g_le_s, g_up_ne (by decide), g_up_ne (by decide), g_up_ne (by decide), up_y, w0, if_pos b0, g_le_s, g_up_ne (show 6 ≠ 10 by decide), hs.1, hc1]
    rfl
  have sst := fun K => st_step (K := K) (c := c1) (m := m) (a := 0) (b := L) (z := 0) (k := 0) hs1 (Nat.le_refl L) (by omega) (by omega) (by omega) v.1 v.2.1 v.2.2.1 v.2.2.2.1 (by rw [v.2.2.2.2]; rfl)
  rw [Nat.sub_zero] at sst
  have eS : Calls_settle c1 = Calls_settle_5 (Calls_settle_5 (Calls_settle_5L 999999999998)) ((0 : Nat) : Int) c1 := by
    unfold Calls_settle
    rw [g_le_s, v.1, show gFu = 999999999998 + 1 + 1 from rfl]
    rfl
  have eB : Calls_begin c = g_bi (Calls_settle c1) (fun _ s7 => some (0, s7)) := by
    unfold Calls_begin
    rw [g_le_s, eP, g_bi_s]
  rw [eB, eS, sst]
  by_cases q : skp (m 51) L 0 < L
  · rw [if_pos q, g_bi_s]
    refine ⟨_, rfl, fun _ => ?_, fun x => absurd q x, fC_tr f1 (fC_up rfl)⟩
    simp (disch := decide) only [g_up_ne, up_y]
    exact ⟨v.1, trivial, v.2.2.1, v.2.2.2.1, v.2.2.2.2⟩
  · rw [if_neg q, v.2.2.2.2, if_pos (by decide)]
    have e2 : ∀ (K : Int → gS → gA) (x : gS), Calls_settle_5 K (((0 : Nat) : Int) - 1) x = some (0, x) := by
      intro K x
      unfold Calls_settle_5
      rw [if_pos (by decide)]
    rw [e2, g_bi_s]
    refine ⟨_, rfl, fun x => absurd x q, fun _ => by rw [up_y]; rfl, fC_tr f1 (fC_tr (fC_up rfl) (fC_up rfl))⟩
end BG

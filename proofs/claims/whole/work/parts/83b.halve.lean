/-! curves -/
section PA
variable {s : Nat} {c m c' m' : gS}
def hm (a b : Int) : Int := i_shr (a + b) 1
def hv (g : Nat → Int) (A H : Nat) : Nat → Int := fun j => if j = A + 5 * H then hm (g (A + 4 * H)) (g (A + 6 * H)) else if j = A + 4 * H then hm (hm (g (A + 2 * H)) (g (A + 4 * H))) (hm (g (A + 4 * H)) (g (A + 6 * H))) else if j = A + 3 * H then hm (hm (hm (g A) (g (A + 2 * H))) (hm (g (A + 2 * H)) (g (A + 4 * H)))) (hm (hm (g (A + 2 * H)) (g (A + 4 * H))) (hm (g (A + 4 * H)) (g (A + 6 * H)))) else if j = A + 2 * H then hm (hm (g A) (g (A + 2 * H))) (hm (g (A + 2 * H)) (g (A + 4 * H))) else if j = A + H then hm (g A) (g (A + 2 * H)) else g j
def hS (q : Nat) (c : gS) (A H : Nat) : gS := fun i j => if i = q then hv (c q) A H j else c i j
theorem hS_y {q A H : Nat} : hS q c A H q = hv (c q) A H := by
  funext j
  show (if q = q then _ else _) = _
  rw [if_pos rfl]
theorem hS_n {q A H i : Nat} (h : i ≠ q) : hS q c A H i = c i := by
  funext j
  show (if i = q then _ else _) = _
  rw [if_neg h]
theorem hv_ups {q A H : Nat} {a b d e f : Int} (h : 0 < H) (ha : a = hm (c q A) (c q (A + 2 * H))) (hb : b = hm (hm (c q A) (c q (A + 2 * H))) (hm (c q (A + 2 * H)) (c q (A + 4 * H)))) (hd : d = hm (hm (hm (c q A) (c q (A + 2 * H))) (hm (c q (A + 2 * H)) (c q (A + 4 * H)))) (hm (hm (c q (A + 2 * H)) (c q (A + 4 * H))) (hm (c q (A + 4 * H)) (c q (A + 6 * H))))) (he : e = hm (hm (c q (A + 2 * H)) (c q (A + 4 * H))) (hm (c q (A + 4 * H)) (c q (A + 6 * H)))) (hf : f = hm (c q (A + 4 * H)) (c q (A + 6 * H))) : g_up (g_up (g_up (g_up (g_up c q (A + H) a) q (A + 2 * H) b) q (A + 3 * H) d) q (A + 4 * H) e) q (A + 5 * H) f = hS q c A H := by
  funext i j
  show _ = if i = q then hv (c q) A H j else c i j
  by_cases hi : i = q
  · subst hi
    rw [if_pos rfl]
    unfold hv
    rw [g_up_at, g_up_at, g_up_at, g_up_at, g_up_at]
    simp only [true_and]
    rw [ha, hb, hd, he, hf]
  · rw [if_neg hi, g_up_ne hi, g_up_ne hi, g_up_ne hi, g_up_ne hi, g_up_ne hi]
theorem wn {a : Int} {k : Nat} (h : a = k) (hk : k < 2147483648) : w32 a = k := by
  rw [h]
  exact w_nat hk
theorem hv_ix {A H : Nat} (hA : A + 6 * H ≤ 24) : (w32 (A : Int) = A ∧ w32 ((A : Int) + ((2 * H : Nat) : Int)) = ((A + 2 * H : Nat) : Int) ∧ w32 ((A : Int) + 2 * ((2 * H : Nat) : Int)) = ((A + 4 * H : Nat) : Int) ∧ w32 ((A : Int) + 3 * ((2 * H : Nat) : Int)) = ((A + 6 * H : Nat) : Int) ∧ w32 ((A : Int) + (H : Int)) = ((A + H : Nat) : Int) ∧ w32 ((A : Int) + 2 * (H : Int)) = ((A + 2 * H : Nat) : Int) ∧ w32 ((A : Int) + 3 * (H : Int)) = ((A + 3 * H : Nat) : Int) ∧ w32 ((A : Int) + 4 * (H : Int)) = ((A + 4 * H : Nat) : Int) ∧ w32 ((A : Int) + 5 * (H : Int)) = ((A + 5 * H : Nat) : Int)) ∧ ((0 : Int) ≤ (A : Int) ∧ (A : Int) < 25) ∧ ((0 : Int) ≤ ((A + H : Nat) : Int) ∧ ((A + H : Nat) : Int) < 25) ∧ ((0 : Int) ≤ ((A + 2 * H : Nat) : Int) ∧ ((A + 2 * H : Nat) : Int) < 25) ∧ ((0 : Int) ≤ ((A + 3 * H : Nat) : Int) ∧ ((A + 3 * H : Nat) : Int) < 25) ∧ ((0 : Int) ≤ ((A + 4 * H : Nat) : Int) ∧ ((A + 4 * H : Nat) : Int) < 25) ∧ ((0 : Int) ≤ ((A + 5 * H : Nat) : Int) ∧ ((A + 5 * H : Nat) : Int) < 25) ∧ ((0 : Int) ≤ ((A + 6 * H : Nat) : Int) ∧ ((A + 6 * H : Nat) : Int) < 25) :=
  ⟨⟨wn rfl (by omega), wn (by omega) (by omega), wn (by omega) (by omega), wn (by omega) (by omega), wn (by omega) (by omega), wn (by omega) (by omega), wn (by omega) (by omega), wn (by omega) (by omega), wn (by omega) (by omega)⟩, by omega, by omega, by omega, by omega, by omega, by omega, by omega⟩
theorem halve32 {A H : Nat} (hH : 0 < H) (hA : A + 6 * H ≤ 24) (a b : Int) (ha : a = A) (hb : b = ((2 * H : Nat) : Int)) : Path_halve a b c = some (0, hS 32 c A H) := by
  subst ha hb
  have e2 : i_div ((2 * H : Nat) : Int) 2 = H := by rw [i_div_nn (by omega) (by omega) (by decide) (by decide)]; omega
  obtain ⟨⟨z0, z2, z4, z6, y1, y2, y3, y4, y5⟩, i0, i1, i2, i3, i4, i5, i6⟩ := hv_ix hA
  unfold Path_halve Path_middle
  rw [g_le_s, e2, z0, z2, z4, z6, y1, y2, y3, y4, y5, if_pos i0, if_pos i2, g_bi_s, if_pos i2, if_pos i4, g_bi_s, if_pos i4, if_pos i6, g_bi_s, g_bi_s, g_bi_s, if_pos i1, g_le_s, if_pos i2, g_le_s, g_bi_s, if_pos i3, g_le_s, if_pos i4, g_le_s, if_pos i5, g_le_s]
  simp only [Int.toNat_natCast]
  exact congrArg (fun x => some ((0 : Int), x)) (hv_ups hH rfl rfl rfl rfl rfl)
theorem halve33 {A H : Nat} (hH : 0 < H) (hA : A + 6 * H ≤ 24) (a b : Int) (ha : a = A) (hb : b = ((2 * H : Nat) : Int)) : Path_halve_b a b c = some (0, hS 33 c A H) := by
  subst ha hb
  have e2 : i_div ((2 * H : Nat) : Int) 2 = H := by rw [i_div_nn (by omega) (by omega) (by decide) (by decide)]; omega
  obtain ⟨⟨z0, z2, z4, z6, y1, y2, y3, y4, y5⟩, i0, i1, i2, i3, i4, i5, i6⟩ := hv_ix hA
  unfold Path_halve_b Path_middle
  rw [g_le_s, e2, z0, z2, z4, z6, y1, y2, y3, y4, y5, if_pos i0, if_pos i2, g_bi_s, if_pos i2, if_pos i4, g_bi_s, if_pos i4, if_pos i6, g_bi_s, g_bi_s, g_bi_s, if_pos i1, g_le_s, if_pos i2, g_le_s, g_bi_s, if_pos i3, g_le_s, if_pos i4, g_le_s, if_pos i5, g_le_s]
  simp only [Int.toNat_natCast]
  exact congrArg (fun x => some ((0 : Int), x)) (hv_ups hH rfl rfl rfl rfl rfl)
def hB (c : gS) (A H : Nat) : gS := hS 33 (hS 32 c A H) A H
theorem hB_32 {A H : Nat} : hB c A H 32 = hv (c 32) A H := by unfold hB; rw [hS_n (by decide), hS_y]
theorem hB_33 {A H : Nat} : hB c A H 33 = hv (c 33) A H := by unfold hB; rw [hS_y, hS_n (by decide)]
theorem hB_n {A H i : Nat} (h : i ≠ 32) (h' : i ≠ 33) : hB c A H i = c i := by unfold hB; rw [hS_n h', hS_n h]
theorem cv_step {K : Int → Int → gS → gA} {K2 : Int → gS → gA} {A H : Nat} (hH : 0 < H) (hA : A + 6 * H ≤ 24) (a b : Int) (ha : a = A) (hb : b = ((2 * H : Nat) : Int)) : Path_curve_42 K K2 b a c = K b (a + 3 * b) (hB c A H) := by
  unfold Path_curve_42
  rw [if_neg (by rw [ha, w_nat (by omega)]; omega), halve32 hH hA a b ha hb, g_bi_s, halve33 hH hA a b ha hb, g_bi_s, g_le_s]
  rfl
theorem cv_end {K : Int → Int → gS → gA} {K2 : Int → gS → gA} {a b : Int} (h : 24 ≤ w32 a) : Path_curve_42 K K2 b a c = K2 b c := by
  unfold Path_curve_42
  rw [if_pos h]
theorem cv35 {K : gS → gA} {K5 : Int → gS → gA} {b : Int} {x : gS} : Path_curve_35 K5 K b x = if w32 b ≤ 1 then K x else Path_curve_42L (Path_curve_75 K5) gFu b 0 x := rfl
theorem cv75 {K5 : Int → gS → gA} {b : Int} {x : gS} : Path_curve_75 K5 b x = K5 (i_div b 2) x := rfl
/-- a row of twenty-five after all halvings -/
def hr (g : Nat → Int) : Nat → Int := hv (hv (hv (hv (hv (hv (hv g 0 4) 0 2) 12 2) 0 1) 6 1) 12 1) 18 1
theorem cv_all {K : gS → gA} : ∃ c', Path_curve_35L K gFu 8 c = K c' ∧ c' 32 = hr (c 32) ∧ c' 33 = hr (c 33) ∧ ∀ i, i ≠ 32 → i ≠ 33 → c' i = c i := by
  refine ⟨hB (hB (hB (hB (hB (hB (hB c 0 4) 0 2) 12 2) 0 1) 6 1) 12 1) 18 1, ?_, ?_, ?_, fun i h1 h2 => ?_⟩
  · rw [show gFu = 999999999996 + 1 + 1 + 1 + 1 from rfl]
    have s8 : ∀ K2 : Int → gS → gA, Path_curve_42L K2 gFu 8 0 c = K2 8 (hB c 0 4) := by
      intro K2
      rw [show gFu = 999999999998 + 1 + 1 from rfl]
      show Path_curve_42 (Path_curve_42 (Path_curve_42L K2 999999999998) K2) K2 8 0 c = _
      rw [cv_step (A := 0) (H := 4) (by decide) (by decide) 0 8 rfl rfl, cv_end (by decide)]
    have s4 : ∀ (K2 : Int → gS → gA) (x : gS), Path_curve_42L K2 gFu 4 0 x = K2 4 (hB (hB x 0 2) 12 2) := by
      intro K2 x
      rw [show gFu = 999999999997 + 1 + 1 + 1 from rfl]
      show Path_curve_42 (Path_curve_42 (Path_curve_42 (Path_curve_42L K2 999999999997) K2) K2) K2 4 0 x = _
      rw [cv_step (A := 0) (H := 2) (by decide) (by decide) 0 4 rfl rfl, cv_step (A := 12) (H := 2) (by decide) (by decide) (0 + 3 * 4) 4 rfl rfl, cv_end (by decide)]
    have s2 : ∀ (K2 : Int → gS → gA) (x : gS), Path_curve_42L K2 gFu 2 0 x = K2 2 (hB (hB (hB (hB x 0 1) 6 1) 12 1) 18 1) := by
      intro K2 x
      rw [show gFu = 999999999995 + 1 + 1 + 1 + 1 + 1 from rfl]
      show Path_curve_42 (Path_curve_42 (Path_curve_42 (Path_curve_42 (Path_curve_42 (Path_curve_42L K2 999999999995) K2) K2) K2) K2) K2 2 0 x = _
      rw [cv_step (A := 0) (H := 1) (by decide) (by decide) 0 2 rfl rfl, cv_step (A := 6) (H := 1) (by decide) (by decide) (0 + 3 * 2) 2 rfl rfl, cv_step (A := 12) (H := 1) (by decide) (by decide) (0 + 3 * 2 + 3 * 2) 2 rfl rfl, cv_step (A := 18) (H := 1) (by decide) (by decide) (0 + 3 * 2 + 3 * 2 + 3 * 2) 2 rfl rfl, cv_end (by decide)]
    show Path_curve_35 (Path_curve_35 (Path_curve_35 (Path_curve_35 (Path_curve_35L K 999999999996) K) K) K) K 8 c = _
    rw [cv35, if_neg (show ¬ w32 8 ≤ 1 by decide), s8, cv75, show i_div 8 2 = 4 by decide, cv35, if_neg (show ¬ w32 4 ≤ 1 by decide), s4, cv75, show i_div 4 2 = 2 by decide, cv35, if_neg (show ¬ w32 2 ≤ 1 by decide), s2, cv75, show i_div 2 2 = 1 by decide, cv35, if_pos (show w32 1 ≤ 1 by decide)]
  · unfold hr
    rw [hB_32, hB_32, hB_32, hB_32, hB_32, hB_32, hB_32]
  · unfold hr
    rw [hB_33, hB_33, hB_33, hB_33, hB_33, hB_33, hB_33]
  · rw [hB_n h1 h2, hB_n h1 h2, hB_n h1 h2, hB_n h1 h2, hB_n h1 h2, hB_n h1 h2, hB_n h1 h2]
end PA

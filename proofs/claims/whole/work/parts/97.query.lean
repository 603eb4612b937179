/-! questions about the job -/
section QU
variable {n : Int} {c m : gS}
theorem l_and1 (z : Int) : l_and z 1 = ((lu z % 2 : Nat) : Int) := by
  unfold l_and
  show (BitVec.ofInt 64 z &&& 1#64).toInt = _
  have e : (BitVec.ofInt 64 z &&& 1#64).toNat = lu z % 2 := by
    rw [BitVec.toNat_and, show (1#64).toNat = 2 ^ 1 - 1 from rfl, Nat.and_two_pow_sub_one_eq_mod]
    rfl
  rw [BitVec.toInt_eq_toNat_of_lt (by rw [e]; show 2 * (lu z % 2) < 18446744073709551616; omega), e]
theorem bit_is (r : Int) {k : Nat} (hk : k < 64) : (w32 (l_cmp (l_and (l_ushr r k) 1) 0) = 0) ↔ lb r k = false := by
  have e : lb r k = decide (lu r / 2 ^ k % 2 = 1) := by
    unfold lb lu
    rw [BitVec.getLsbD, Nat.testBit_eq_decide_div_mod_eq]
  rw [l_and1, lu_ushr r hk, e]
  have b : lu r / 2 ^ k % 2 < 2 := Nat.mod_lt _ (by decide)
  generalize lu r / 2 ^ k % 2 = t at b ⊢
  rw [l_cmp_s (w64_id (by omega) (by omega)) (by decide)]
  rcases (show t = 0 ∨ t = 1 by omega) with rfl | rfl <;> decide
theorem op_job {a : Int} (ha : w32 a = a) (h : RA n c m) : ∃ (z z' : Int) (c' m' : gS), B_job a c = some (z, c') ∧ M_job a m = some (z', m') ∧ z = z' ∧ RA n c' m' := by
  obtain ⟨hP, hT, L, hs, hrq, hn, h8, hph, h1⟩ := id h
  obtain ⟨⟨nv, hv⟩, hW, ⟨l, hl, l1, e26⟩, ⟨s, hp⟩, ⟨k, hg⟩, hz⟩ := hrq.pc
  have hr := RA_code (v := 0) h
  have lv : 0 ≤ w32 (c 21 6) ∧ w32 (c 21 6) < 5 ∧ (w32 (c 21 6)).toNat = l := by
    rw [l1, w_nat (by omega)]
    omega
  unfold B_job M_job Settings_greyNow
  rw [g_le_s, ha]
  by_cases a0 : a = 0
  · rw [if_pos a0, if_pos a0]; exact ⟨_, _, _, _, rfl, rfl, by rw [up_n (by decide)]; exact h8, hr⟩
  rw [if_neg a0, if_neg a0]
  by_cases a1 : a = 1
  · rw [if_pos a1, if_pos a1]; exact ⟨_, _, _, _, rfl, rfl, by rw [up_n (by decide)]; exact hn.1, hr⟩
  rw [if_neg a1, if_neg a1]
  by_cases a2 : a = 2
  · rw [if_pos a2, if_pos a2]; exact ⟨_, _, _, _, rfl, rfl, by rw [up_n (by decide)]; exact hn.2.1, hr⟩
  rw [if_neg a2, if_neg a2]
  by_cases a3 : a = 3
  · rw [if_pos a3, if_pos a3]; exact ⟨_, _, _, _, rfl, rfl, by rw [up_n (by decide), hg.2.1, hg.2.2.1], hr⟩
  rw [if_neg a3, if_neg a3]
  by_cases a4 : a = 4
  · rw [if_pos a4, if_pos a4]; exact ⟨_, _, _, _, rfl, rfl, by rw [up_n (by decide)]; exact hn.2.2.1, hr⟩
  rw [if_neg a4, if_neg a4]
  by_cases a5 : a = 5
  · rw [if_pos a5, if_pos a5]; exact ⟨_, _, _, _, rfl, rfl, by rw [up_n (by decide)]; exact hg.2.2.2.1, hr⟩
  rw [if_neg a5, if_neg a5]
  by_cases a6 : a = 6
  · rw [if_pos a6, if_pos a6]; exact ⟨_, _, _, _, rfl, rfl, by rw [up_n (by decide), hv.2.2.1, hv.2.2.2.1], hr⟩
  rw [if_neg a6, if_neg a6]
  by_cases a7 : a = 7
  · rw [if_pos a7, if_pos a7]; exact ⟨_, _, _, _, rfl, rfl, by rw [up_n (by decide), hp.2.1, hp.2.2.1], hr⟩
  rw [if_neg a7, if_neg a7]
  by_cases a8 : a = 8
  · rw [if_pos a8, if_pos a8, if_pos ⟨lv.1, lv.2.1⟩, g_bi_s, lv.2.2, e26, g_up_ne (show 62 ≠ 49 by decide)]; exact ⟨_, _, _, _, rfl, rfl, rfl, hr⟩
  rw [if_neg a8, if_neg a8]
  exact ⟨_, _, _, _, rfl, rfl, rfl, hr⟩
theorem op_variable {a : Int} (ha : w32 a = a) (h : RA n c m) : ∃ (z z' : Int) (c' m' : gS), B_variable a c = some (z, c') ∧ M_variable a m = some (z', m') ∧ z = z' ∧ RA n c' m' := by
  obtain ⟨hP, hT, L, hs, hrq, -⟩ := id h
  obtain ⟨-, hW, -⟩ := hrq.pc
  have hr := RA_code (v := 0) h
  unfold B_variable M_variable
  rw [g_le_s, ha]
  by_cases a0 : a < 0
  · rw [if_pos a0, if_pos a0]; exact ⟨_, _, _, _, rfl, rfl, rfl, hr⟩
  rw [if_neg a0, if_neg a0]
  by_cases a1 : a < 26
  · rw [if_pos a1, if_pos (show a ≤ 25 by omega), if_pos ⟨by omega, a1⟩, if_pos ⟨by omega, a1⟩]
    refine ⟨_, _, _, _, rfl, rfl, ?_, hr⟩
    rw [g_up_ne (by decide)]
    exact (hW a.toNat (by omega)).1
  · rw [if_neg a1, if_neg (show ¬ a ≤ 25 by omega)]
    exact ⟨_, _, _, _, rfl, rfl, rfl, hr⟩
theorem op_value {a : Int} (ha : w32 a = a) (h : RA n c m) : ∃ (t z z' : Int) (c' m' : gS), B_value a c = some (t, z, c') ∧ M_value a m = some (z', m') ∧ ((t = 0 ∧ m' 49 0 = 0 ∧ z = z') ∨ (t = 3 ∧ m' 49 0 = 1)) ∧ RA n c' m' := by
  obtain ⟨hP, hT, L, hs, hrq, -⟩ := id h
  obtain ⟨⟨nv, v0, v1, v2, v3, v4⟩, -⟩ := hrq.pc
  have no : ∃ (t z z' : Int) (c' m' : gS), B_value_18 c = some (t, z, c') ∧ M_value_13 a m = some (z', m') ∧ ((t = 0 ∧ m' 49 0 = 0 ∧ z = z') ∨ (t = 3 ∧ m' 49 0 = 1)) ∧ RA n c' m' := by
    refine ⟨3, 0, 0, c, g_up m 49 0 1, rfl, ?_, Or.inr ⟨rfl, up_y⟩, RA_code h⟩
    unfold M_value_13 M_value_18
    rw [g_le_s, up_y, if_neg (by decide)]
  unfold B_value M_value
  rw [ha, v2, v3, w_nat (show nv < 2147483648 by omega)]
  by_cases a0 : a < 0
  · rw [if_pos a0, if_pos a0]; exact no
  rw [if_neg a0, if_neg a0]
  by_cases a1 : a < nv
  · rw [if_pos a1, if_pos a1]
    obtain ⟨i, rfl⟩ : ∃ i : Nat, a = i := ⟨a.toNat, by omega⟩
    have v := v4 (nv - 1 - i) (by omega)
    have w := v.w v0
    have bb : (0 : Int) ≤ ((nv - 1 - i : Nat) : Int) ∧ ((nv - 1 - i : Nat) : Int) < 33 := ⟨by omega, by omega⟩
    rw [peek_in v2 v1 i i rfl (by omega), g_bi_s]
    unfold M_value_18 M_value_53
    rw [g_le_s, up_y, if_pos (by decide), up_n (show ¬ (49 = 49 ∧ 13 = 0) by decide), v3, show (nv : Int) - 1 - i = ((nv - 1 - i : Nat) : Int) by omega, w_nat (show nv - 1 - i < 2147483648 by omega), if_pos bb, if_pos bb, if_pos bb, Int.toNat_natCast, g_up_ne (show 54 ≠ 49 by decide), g_up_ne (show 52 ≠ 49 by decide), w.2.2.1]
    rcases v with ⟨x1, x2, -⟩ | ⟨x1, j, x2, x3, -⟩
    · rw [if_pos x1]
      exact ⟨0, _, _, _, _, rfl, rfl, Or.inl ⟨rfl, up_y, by rw [x2]; omega⟩, RA_code h⟩
    · rw [if_neg (by omega)]
      exact ⟨0, _, _, _, _, rfl, rfl, Or.inl ⟨rfl, up_y, by rw [x2, x3]⟩, RA_code h⟩
  · rw [if_neg a1, if_neg a1]; exact no
theorem line_is {k : Nat} (hg : JG k c m) {p : Int} (hp : w32 p = p) {y : Nat} (hy : y < 48) : Pages_line p y c = some (if 0 ≤ p ∧ p < k then c 35 (48 * p.toNat + y) else if p = -1 then c 36 y else 0, c) := by
  have hk := hg.1
  unfold Pages_line Pages_isKept
  rw [w_nat (show y < 2147483648 by omega), if_neg (by omega), if_pos (show (y : Int) < 48 by omega), hp, hg.2.1, w_nat (show k < 2147483648 by omega)]
  by_cases a0 : p < 0
  · rw [if_pos a0, g_bi_s, if_pos (show w32 0 = 0 from rfl), if_neg (show ¬ (0 ≤ p ∧ p < k) by omega)]
    by_cases a1 : p = -1
    · rw [if_pos a1, if_pos a1, if_pos ⟨by omega, by omega⟩, Int.toNat_natCast]
    · rw [if_neg a1, if_neg a1]
  · rw [if_neg a0]
    by_cases a1 : (k : Int) ≤ p
    · rw [if_pos a1, g_bi_s, if_pos (show w32 0 = 0 from rfl), if_neg (show ¬ (0 ≤ p ∧ p < k) by omega), if_neg (show ¬ p = -1 by omega), if_neg (show ¬ p = -1 by omega)]
    · obtain ⟨i, rfl⟩ : ∃ i : Nat, p = i := ⟨p.toNat, by omega⟩
      rw [if_neg a1, g_bi_s, if_neg (show ¬ w32 1 = 0 by decide), if_pos (show (0 : Int) ≤ i ∧ (i : Int) < k by omega), show (i : Int) * 48 + y = ((48 * i + y : Nat) : Int) by omega, w_nat (show 48 * i + y < 2147483648 by omega), if_pos ⟨by omega, by omega⟩, Int.toNat_natCast, Int.toNat_natCast]
theorem op_pixel {a b d : Int} (ha : w32 a = a) (hb : w32 b = b) (hd : w32 d = d) (h : RA n c m) : ∃ (z z' : Int) (c' m' : gS), B_pixel a b d c = some (z, c') ∧ M_pixel a b d m = some (z', m') ∧ z = z' ∧ RA n c' m' := by
  obtain ⟨hP, hT, L, hs, hrq, -⟩ := id h
  obtain ⟨-, -, -, -, ⟨k, hg⟩, -⟩ := hrq.pc
  have hr := RA_code (v := 0) h
  have hk := hg.1
  have no : ∃ (z z' : Int) (c' m' : gS), some ((0 : Int), c) = some (z, c') ∧ some ((0 : Int), g_up m 49 0 0) = some (z', m') ∧ z = z' ∧ RA n c' m' := ⟨_, _, _, _, rfl, rfl, rfl, hr⟩
  have eM : M_pixel a b d m = if (a < -1 ∨ (k : Int) ≤ a) ∨ (b < 0 ∨ 64 ≤ b ∨ d < 0 ∨ 48 ≤ d) then some (0, g_up m 49 0 0) else (if a = -1 then M_pixel_44 b d 3072 8 (g_up m 49 0 0) else M_pixel_44 b d 3072 a (g_up m 49 0 0)) := by
    unfold M_pixel M_isPixel
    rw [g_le_s, ha, up_n (show ¬ (49 = 49 ∧ 8 = 0) by decide), hg.2.2.1, w_nat (show k < 2147483648 by omega), hb, hd]
    by_cases x1 : a < -1
    · rw [if_pos x1, if_pos (Or.inl (Or.inl x1))]
    rw [if_neg x1]
    by_cases x2 : (k : Int) ≤ a
    · rw [if_pos x2, if_pos (Or.inl (Or.inr x2))]
    rw [if_neg x2]
    by_cases x3 : b < 0
    · rw [if_pos x3, g_bi_s, if_pos (show w32 0 = 0 from rfl), if_pos (Or.inr (Or.inl x3))]
    rw [if_neg x3]
    by_cases x4 : 64 ≤ b
    · rw [if_pos x4, g_bi_s, if_pos (show w32 0 = 0 from rfl), if_pos (Or.inr (Or.inr (Or.inl x4)))]
    rw [if_neg x4]
    by_cases x5 : d < 0
    · rw [if_pos x5, g_bi_s, if_pos (show w32 0 = 0 from rfl), if_pos (Or.inr (Or.inr (Or.inr (Or.inl x5))))]
    rw [if_neg x5]
    by_cases x6 : 48 ≤ d
    · rw [if_pos x6, g_bi_s, if_pos (show w32 0 = 0 from rfl), if_pos (Or.inr (Or.inr (Or.inr (Or.inr x6))))]
    rw [if_neg x6, g_bi_s, if_neg (show ¬ w32 1 = 0 by decide), if_neg (show ¬ ((a < -1 ∨ (k : Int) ≤ a) ∨ (b < 0 ∨ 64 ≤ b ∨ d < 0 ∨ 48 ≤ d)) by omega)]
  rw [eM]
  unfold B_pixel
  rw [hb, hd]
  by_cases x3 : b < 0
  · rw [if_pos x3, if_pos (by omega)]; exact no
  rw [if_neg x3]
  by_cases x4 : 64 ≤ b
  · rw [if_pos x4, if_pos (by omega)]; exact no
  rw [if_neg x4]
  by_cases x5 : d < 0
  · rw [if_pos x5, if_pos (by omega)]; exact no
  rw [if_neg x5]
  by_cases x6 : d < 48
  rotate_left
  · rw [if_neg x6, if_pos (by omega)]; exact no
  rw [if_pos x6]
  obtain ⟨x, rfl⟩ : ∃ x : Nat, b = x := ⟨b.toNat, by omega⟩
  obtain ⟨y, rfl⟩ : ∃ y : Nat, d = y := ⟨d.toNat, by omega⟩
  rw [line_is hg ha (by omega), g_bi_s, show (63 : Int) - x = ((63 - x : Nat) : Int) by omega]
  have m44 : ∀ (P : Nat) (v : Int), v = P → P ≤ 8 → M_pixel_44 x y 3072 v (g_up m 49 0 0) = some (if w32 (m 64 (3072 * P + (64 * y + x))) = 0 then 0 else 1, g_up m 49 0 0) := by
    intro P v hv hP8
    subst hv
    unfold M_pixel_44
    rw [show 3072 * (P : Int) + 64 * (y : Int) + x = ((3072 * P + (64 * y + x) : Nat) : Int) by omega, w_nat (show 3072 * P + (64 * y + x) < 2147483648 by omega), if_pos ⟨by omega, by omega⟩, Int.toNat_natCast, g_up_ne (show 64 ≠ 49 by decide)]
    split <;> rfl
  have fin : ∀ (r : Int) (v : Int), v = (if lb r (63 - x) then 1 else 0) → ∃ (z z' : Int) (c' m' : gS), (if w32 (l_cmp (l_and (l_ushr r ((63 - x : Nat) : Int)) 1) 0) = 0 then some ((0 : Int), c) else some (1, c)) = some (z, c') ∧ some (if w32 v = 0 then (0 : Int) else 1, g_up m 49 0 0) = some (z', m') ∧ z = z' ∧ RA n c' m' := by
    intro r v hv
    have bt := bit_is r (k := 63 - x) (by omega)
    cases hb2 : lb r (63 - x) with
    | false =>
      rw [if_pos (bt.2 hb2), hv, hb2]
      exact ⟨_, _, _, _, rfl, rfl, rfl, hr⟩
    | true =>
      rw [if_neg (fun e => by rw [bt.1 e] at hb2; cases hb2), hv, hb2]
      exact ⟨_, _, _, _, rfl, rfl, rfl, hr⟩
  by_cases y1 : 0 ≤ a ∧ a < k
  · obtain ⟨i, rfl⟩ : ∃ i : Nat, a = i := ⟨a.toNat, by omega⟩
    rw [if_pos y1, if_neg (show ¬ (((i : Int) < -1 ∨ (k : Int) ≤ i) ∨ ((x : Int) < 0 ∨ 64 ≤ (x : Int) ∨ (y : Int) < 0 ∨ 48 ≤ (y : Int))) by omega), if_neg (show ¬ (i : Int) = -1 by omega), m44 i i rfl (by omega), Int.toNat_natCast]
    exact fin _ _ (hg.2.2.2.2.2.2.2 i (by omega) y (by omega) x (by omega))
  · rw [if_neg y1]
    by_cases y2 : a = -1
    · subst y2
      rw [if_pos rfl, if_neg (show ¬ (((-1 : Int) < -1 ∨ (k : Int) ≤ -1) ∨ ((x : Int) < 0 ∨ 64 ≤ (x : Int) ∨ (y : Int) < 0 ∨ 48 ≤ (y : Int))) by omega), if_pos rfl, m44 8 8 rfl (by omega)]
      exact fin _ _ (hg.2.2.2.2.2.2.1 y (by omega) x (by omega))
    · have bt := bit_is 0 (k := 63 - x) (by omega)
      rw [if_neg y2, if_pos (bt.2 (lb_0 _)), if_pos (show (a < -1 ∨ (k : Int) ≤ a) ∨ ((x : Int) < 0 ∨ 64 ≤ (x : Int) ∨ (y : Int) < 0 ∨ 48 ≤ (y : Int)) by omega)]
      exact no
end QU

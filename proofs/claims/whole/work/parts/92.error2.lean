/-! errors, the first ones -/
section ES
variable {L n l s k D : Nat} {c m : gS} {w : Int}
abbrev isR (w : Int) : Prop := (48 ≤ w ∧ w ≤ 57) ∨ (97 ≤ w ∧ w ≤ 122) ∨ w = 123 ∨ w = 68
def okR (w : Int) (n D : Nat) (m : gS) : Prop := (isR w → n < 32) ∧ (w = 63 → D < 21) ∧ (w = 82 → 0 < m 52 (n - 1 - 1) → D < 21)
theorem room_both (hw : w32 w = w) (hv : JV L n c m) (hu : CU L D c m) (h82 : w = 82 → 2 ≤ n ∧ m 54 (n - 1 - 1) = 0) : ∃ b : Int, (b = 0 ∨ b = 1) ∧ Job_lacksRoom w c = some (b, c) ∧ M_errorOf_217 w m = (if b = 0 then M_errorOf_283 w m else some (5, m)) ∧ (b = 0 → okR w n D m) := by
  obtain ⟨v0, v1, v2, v3, v4⟩ := id hv
  obtain ⟨u1, u2, u3, -⟩ := hu
  have e26 : Job_lacksRoom_26 c = some (if n < 32 then 0 else 1, c) := by
    unfold Job_lacksRoom_26 Values_isFull
    rw [v2, w_nat (by omega)]
    by_cases q : n < 32
    · rw [if_pos (show (n : Int) < 32 by omega), g_bi_s, if_pos (by decide), if_pos q]
    · rw [if_neg (show ¬ (n : Int) < 32 by omega), g_bi_s, if_pos (by decide), if_neg q]
  have e58 : Job_lacksRoom_58 c = some (if D < 21 then 0 else 1, c) := by
    unfold Job_lacksRoom_58 Job_lacksRoom_63 Calls_isFull
    rw [if_neg (by decide), u2, w32_id (by omega) (by omega)]
    by_cases q : D < 21
    · rw [if_pos (show (D : Int) - 1 < 20 by omega), g_bi_s, if_pos (show w32 0 = 0 from rfl), if_pos q]
    · rw [if_neg (show ¬ (D : Int) - 1 < 20 by omega), g_bi_s, if_neg (show ¬ w32 1 = 0 by decide), if_neg q]
  have e62 : Job_lacksRoom_62 c = some (0, c) := by
    unfold Job_lacksRoom_62 Job_lacksRoom_63
    rw [if_pos (by decide)]
  have m243 : w ≠ 63 → w ≠ 82 → M_errorOf_243 w m = if n < 32 then M_errorOf_283 w m else some (5, m) := by
    intro a b
    unfold M_errorOf_243 M_errorOf_252
    rw [v3, w_nat (by omega), hw, if_neg a, if_neg b]
    by_cases q : n < 32
    · rw [if_neg (show ¬ (n : Int) = 32 by omega), if_pos q]
    · rw [if_pos (show (n : Int) = 32 by omega), if_neg q]
  have m272 : M_errorOf_272 w m = if D < 21 then M_errorOf_283 w m else some (5, m) := by
    unfold M_errorOf_272
    rw [u3, w_nat (by omega)]
    by_cases q : D < 21
    · rw [if_neg (show ¬ (D : Int) = 21 by omega), if_pos q]
    · rw [if_pos (show (D : Int) = 21 by omega), if_neg q]
  -- a word that wants room on the stack
  have onR : isR w → Job_lacksRoom w c = some (if n < 32 then 0 else 1, c) → M_errorOf_217 w m = (if n < 32 then M_errorOf_283 w m else some (5, m)) → ∃ b : Int, (b = 0 ∨ b = 1) ∧ Job_lacksRoom w c = some (b, c) ∧ M_errorOf_217 w m = (if b = 0 then M_errorOf_283 w m else some (5, m)) ∧ (b = 0 → okR w n D m) := by
    intro hr hC hM
    by_cases q : n < 32
    · rw [if_pos q] at hC hM
      exact ⟨0, Or.inl rfl, hC, by rw [if_pos rfl]; exact hM, fun _ => ⟨fun _ => q, fun x => absurd hr (by rw [x]; decide), fun x => absurd hr (by rw [x]; decide)⟩⟩
    · rw [if_neg q] at hC hM
      exact ⟨1, Or.inr rfl, hC, by rw [if_neg (by decide)]; exact hM, fun x => by cases x⟩
  have dC := dgC c hw
  have dM := dgM m hw
  have lC := ltC c hw
  have lM := ltM m hw
  have c0 := w32_01 (dg_01 w)
  have c1 : w32 (lt w) = lt w := w32_01 (by unfold lt; split <;> simp)
  by_cases a1 : 48 ≤ w ∧ w ≤ 57
  · have d1 : dg w = 1 := by unfold dg; rw [if_pos a1]
    refine onR (Or.inl a1) ?_ ?_
    · unfold Job_lacksRoom
      rw [dC, g_bi_s, c0, d1, if_neg (by decide), e26]
    · unfold M_errorOf_217
      rw [dM, g_bi_s, c0, d1, if_neg (by decide), m243 (by omega) (by omega)]
  have d0 : dg w = 0 := by unfold dg; rw [if_neg a1]
  by_cases a2 : 97 ≤ w ∧ w ≤ 122
  · have d1 : lt w = 1 := by unfold lt; rw [if_pos a2]
    refine onR (Or.inr (Or.inl a2)) ?_ ?_
    · unfold Job_lacksRoom
      rw [dC, g_bi_s, c0, d0, if_pos rfl, lC, g_bi_s, c1, d1, if_neg (by decide), e26]
    · unfold M_errorOf_217
      rw [dM, g_bi_s, c0, d0, if_pos rfl, lM, g_bi_s, c1, d1, if_neg (by decide), m243 (by omega) (by omega)]
  have l0 : lt w = 0 := by unfold lt; rw [if_neg a2]
  by_cases a3 : w = 123
  · refine onR (Or.inr (Or.inr (Or.inl a3))) ?_ ?_
    · unfold Job_lacksRoom
      rw [dC, g_bi_s, c0, d0, if_pos rfl, lC, g_bi_s, c1, l0, if_pos rfl, hw, if_pos a3, e26]
    · unfold M_errorOf_217
      rw [dM, g_bi_s, c0, d0, if_pos rfl, lM, g_bi_s, c1, l0, if_pos rfl, hw, if_pos a3, m243 (by omega) (by omega)]
  by_cases a4 : w = 68
  · refine onR (Or.inr (Or.inr (Or.inr a4))) ?_ ?_
    · unfold Job_lacksRoom
      rw [dC, g_bi_s, c0, d0, if_pos rfl, lC, g_bi_s, c1, l0, if_pos rfl, hw, if_neg a3, if_pos a4, e26]
    · unfold M_errorOf_217
      rw [dM, g_bi_s, c0, d0, if_pos rfl, lM, g_bi_s, c1, l0, if_pos rfl, hw, if_neg a3, if_pos a4, m243 (by omega) (by omega)]
  have nR : ¬ isR w := by rintro (x | x | x | x); exact a1 x; exact a2 x; exact a3 x; exact a4 x
  have eC : Job_lacksRoom w c = if w = 63 then Job_lacksRoom_58 c else if w = 82 then g_bi (Values_peek 1 c) (fun r22 s23 => if w32 r22 < 1 then Job_lacksRoom_62 s23 else Job_lacksRoom_58 s23) else Job_lacksRoom_62 c := by
    unfold Job_lacksRoom
    rw [dC, g_bi_s, c0, d0, if_pos rfl, lC, g_bi_s, c1, l0, if_pos rfl, hw, if_neg a3, if_neg a4]
  have eM : M_errorOf_217 w m = if w = 63 then M_errorOf_272 w m else if w = 82 then g_bi (M_number 1 m) (fun r71 s72 => if w32 r71 ≤ 0 then M_errorOf_283 w s72 else M_errorOf_272 w s72) else M_errorOf_283 w m := by
    unfold M_errorOf_217 M_errorOf_252
    rw [dM, g_bi_s, c0, d0, if_pos rfl, lM, g_bi_s, c1, l0, if_pos rfl, hw, if_neg a3, if_neg a4]
  rw [eC, eM]
  have deep : ∀ z : w = 63 ∨ w = 82, ∃ b : Int, (b = 0 ∨ b = 1) ∧ Job_lacksRoom_58 c = some (b, c) ∧ M_errorOf_272 w m = (if b = 0 then M_errorOf_283 w m else some (5, m)) ∧ (b = 0 → okR w n D m) := by
    intro _
    rw [e58, m272]
    by_cases q : D < 21
    · rw [if_pos q, if_pos q]
      exact ⟨0, Or.inl rfl, rfl, rfl, fun _ => ⟨fun x => absurd x nR, fun _ => q, fun _ _ => q⟩⟩
    · rw [if_neg q, if_neg q]
      exact ⟨1, Or.inr rfl, rfl, rfl, fun x => by cases x⟩
  by_cases a5 : w = 63
  · rw [if_pos a5, if_pos a5]
    exact deep (Or.inl a5)
  rw [if_neg a5, if_neg a5]
  by_cases a6 : w = 82
  · obtain ⟨h2, hk⟩ := h82 a6
    obtain ⟨x1, x2, x3⟩ := at_num hv (k := 1) (by omega) hk
    rw [if_pos a6, if_pos a6, peek_in v2 v1 1 1 rfl (by omega), num_in v3 v1 1 1 rfl (by omega), g_bi_s, g_bi_s, x1, w32_id (by omega) (by omega), e62]
    by_cases q : m 52 (n - 1 - 1) < 1
    · rw [if_pos q, if_pos (show m 52 (n - 1 - 1) ≤ 0 by omega)]
      exact ⟨0, Or.inl rfl, rfl, by rw [if_pos rfl], fun _ => ⟨fun x => absurd x nR, fun x => absurd x a5, fun _ y => by omega⟩⟩
    · rw [if_neg q, if_neg (show ¬ m 52 (n - 1 - 1) ≤ 0 by omega)]
      exact deep (Or.inr a6)
  rw [if_neg a6, if_neg a6, e62]
  exact ⟨0, Or.inl rfl, rfl, by rw [if_pos rfl], fun _ => ⟨fun x => absurd x nR, fun x => absurd x a5, fun x => absurd x a6⟩⟩
theorem farC (hv : JV L n c m) (hm : JM l c m) {k : Nat} (hk : k + 1 < n) (e0 : m 54 (n - 1 - k) = 0) (e1 : m 54 (n - 1 - (k + 1)) = 0) (a : Int) (ha : a = ((k + 1 : Nat) : Int)) : ∃ b : Int, (b = 0 ∨ b = 1) ∧ Job_isFarOff a c = some (b, c) ∧ (b = 0 → nr m n k) ∧ ∀ (K : Int → Int → Int → gS → gA) (e : Nat), k < e → e ≤ 6 → M_isNear_4 K e 1 k m = K e (1 - b) ((k + 2 : Nat) : Int) m := by
  obtain ⟨v0, v1, v2, v3, v4⟩ := id hv
  obtain ⟨x1, x2, x3⟩ := at_num hv (k := k + 1) hk e1
  obtain ⟨y1, y2, y3⟩ := at_num hv (k := k) (by omega) e0
  have bx := px_bd hm x2 x3
  have by_ := px_bd hm y2 y3
  have ea : a - 1 = ((k : Nat) : Int) := by omega
  have cmp : ∀ z : Int, -1000000000 ≤ z → z ≤ 1000000000 → w32 (l_cmp (z.natAbs : Int) 100000) = if (z.natAbs : Int) ≤ 100000 then (if (z.natAbs : Int) = 100000 then 0 else -1) else 1 := by
    intro z z1 z2
    rw [l_cmp_s (w64_id (by omega) (by omega)) (by decide)]
    by_cases q : (100000 : Int) < (z.natAbs : Int)
    · rw [if_pos q, if_neg (by omega)]
    · rw [if_neg q, if_pos (show (z.natAbs : Int) ≤ 100000 by omega)]
  have mN : ∀ (K : Int → Int → Int → gS → gA) (e : Nat), k < e → e ≤ 6 → M_isNear_4 K e 1 k m = g_bi (M_isFar (pX m (m 52 (n - 1 - (k + 1)))) 100000 m) (fun r10 s11 => if w32 r10 = 0 then g_bi (M_number k s11) (fun r14 s15 => g_bi (M_yOf r14 s15) fun r17 s18 => g_bi (M_isFar r17 100000 s18) fun r20 s21 => if w32 r20 = 0 then M_isNear_54 K e k 1 s21 else M_isNear_53 K e k s21) else M_isNear_53 K e k s11) := by
    intro K e h1 h2
    unfold M_isNear_4
    rw [w_nat (by omega), w_nat (by omega), if_neg (by omega), if_neg (by decide), show (k : Int) + 1 = ((k + 1 : Nat) : Int) by omega, num_in v3 v1 _ (k + 1) rfl hk, g_bi_s, xM hm x2 x3, g_bi_s]
  have cC : Job_isFarOff a c = if 0 < w32 (l_cmp ((pX m (m 52 (n - 1 - (k + 1)))).natAbs : Int) 100000) then some (1, c) else (if w32 (l_cmp ((pY m (m 52 (n - 1 - k))).natAbs : Int) 100000) ≤ 0 then some (0, c) else some (1, c)) := by
    unfold Job_isFarOff
    rw [peek_in v2 v1 a (k + 1) ha hk, g_bi_s, x1, plX hm x2 x3, g_bi_s, abs_is c (by omega) (by omega), g_bi_s, ea, peek_in v2 v1 _ k rfl (by omega), g_bi_s, y1, plY hm y2 y3, g_bi_s, abs_is c (by omega) (by omega), g_bi_s]
  rw [cC, cmp _ bx.1 bx.2.1, cmp _ by_.2.2.1 by_.2.2.2.1]
  have k2 : (k : Int) + 2 = ((k + 2 : Nat) : Int) := by omega
  by_cases q1 : ((pX m (m 52 (n - 1 - (k + 1)))).natAbs : Int) ≤ 100000
  · rw [if_pos q1, if_neg (by split <;> decide)]
    by_cases q2 : ((pY m (m 52 (n - 1 - k))).natAbs : Int) ≤ 100000
    · rw [if_pos q2, if_pos (by split <;> decide)]
      refine ⟨0, Or.inl rfl, rfl, fun _ => by unfold nr; omega, fun K e h1 h2 => ?_⟩
      rw [mN K e h1 h2, far_is m (by omega) (by omega) (by decide) (by decide), g_bi_s, if_pos q1, if_pos (show w32 0 = 0 from rfl), num_in v3 v1 _ k rfl (by omega), g_bi_s, yM hm y2 y3, g_bi_s, far_is m (by omega) (by omega) (by decide) (by decide), g_bi_s, if_pos q2, if_pos (show w32 0 = 0 from rfl)]
      unfold M_isNear_54
      rw [k2]
      rfl
    · rw [if_neg q2, if_neg (by decide)]
      refine ⟨1, Or.inr rfl, rfl, fun x => (by cases x), fun K e h1 h2 => ?_⟩
      rw [mN K e h1 h2, far_is m (by omega) (by omega) (by decide) (by decide), g_bi_s, if_pos q1, if_pos (show w32 0 = 0 from rfl), num_in v3 v1 _ k rfl (by omega), g_bi_s, yM hm y2 y3, g_bi_s, far_is m (by omega) (by omega) (by decide) (by decide), g_bi_s, if_neg q2, if_neg (show ¬ w32 1 = 0 by decide)]
      unfold M_isNear_53 M_isNear_54
      rw [k2]
      rfl
  · rw [if_neg q1, if_pos (by decide)]
    refine ⟨1, Or.inr rfl, rfl, fun x => (by cases x), fun K e h1 h2 => ?_⟩
    rw [mN K e h1 h2, far_is m (by omega) (by omega) (by decide) (by decide), g_bi_s, if_neg q1, if_neg (show ¬ w32 1 = 0 by decide)]
    unfold M_isNear_53 M_isNear_54
    rw [k2]
    rfl
theorem near_0 {K : Int → Int → Int → gS → gA} {e k : Nat} (h1 : k < e) (h2 : e ≤ 6) : M_isNear_4 K e 0 k m = K e 0 ((k + 2 : Nat) : Int) m := by
  unfold M_isNear_4 M_isNear_53 M_isNear_54
  rw [w_nat (by omega), w_nat (by omega), if_neg (by omega), if_pos (by decide)]
  rfl
theorem near_e {K : Int → Int → Int → gS → gA} {e : Nat} {v : Int} (hv : v = 0 ∨ v = 1) : M_isNear_4 K e v e m = some (v, m) := by
  unfold M_isNear_4
  rw [if_pos (Int.le_refl _), if_pos (by rw [w32_01 hv]; exact hv)]
end ES

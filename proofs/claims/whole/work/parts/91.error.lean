/-! errors, the last ones first -/
def FE (c : gS) (e : Int) : Int := if e = 0 then (if w32 (c 5 11) < w32 (c 5 12) then 0 else 12) else e
section ER
variable {L n l s k D : Nat} {c m : gS} {w : Int}
theorem e225 : Job_errorOf_225 c = some (FE c 0, c) := by
  unfold Job_errorOf_225 FE
  rw [if_pos (show (0 : Int) = 0 from rfl)]
  by_cases q : w32 (c 5 11) < w32 (c 5 12)
  · rw [if_pos q, if_pos q]
  · rw [if_neg q, if_neg q]
theorem FE_n {e : Int} (h : e ≠ 0) : FE c e = e := by unfold FE; rw [if_neg h]
theorem tail_both (hw : w32 w = w) (h70 : w ≠ 70) (h69 : w ≠ 69) (hm : JM l c m) (hg : JG k c m) (hu : CU L D c m) : ∃ e : Int, Job_errorOf_150 w c = some (FE c e, c) ∧ M_errorOf_375 w m = some (e, m) ∧ (0 ≤ e ∧ e ≤ 11) ∧ (e = 0 → (w = 80 → k < 8) ∧ (w = 85 → l < 4) ∧ (w = 86 → 0 < l) ∧ (w = 81 → M_isRepeated m = some (1, m))) := by
  have hk8 := hg.1
  have hl4 := hm.1
  have q1 : ∃ e : Int, Job_errorOf_205 w c = some (FE c e, c) ∧ M_errorOf_468 w m = some (e, m) ∧ (0 ≤ e ∧ e ≤ 11) ∧ (e = 0 → (w = 81 → M_isRepeated m = some (1, m))) := by
    unfold Job_errorOf_205 M_errorOf_468
    rw [hw]
    by_cases a : w = 81
    · rw [if_pos a, if_pos a]
      rcases loop_both hu with ⟨x, y⟩ | ⟨j, j1, x, y, z⟩
      · rw [x, y, g_bi_s, g_bi_s, if_pos (show w32 (-1) = -1 by decide), if_pos (show w32 0 = 0 from rfl)]
        exact ⟨11, by rw [FE_n (by decide)], rfl, by decide, fun e => (by cases e)⟩
      · have hD := hu.1
        rw [x, y, g_bi_s, g_bi_s, if_neg (show ¬ w32 (j : Int) = -1 by rw [w_nat (by omega)]; omega), if_neg (show ¬ w32 1 = 0 by decide), e225]
        exact ⟨0, rfl, rfl, by decide, fun _ _ => rfl⟩
    · rw [if_neg a, if_neg a, e225]
      exact ⟨0, rfl, rfl, by decide, fun _ x => absurd x a⟩
  obtain ⟨e1, a1, a2, a3, a4⟩ := q1
  have q2 : ∃ e : Int, Job_errorOf_186 w c = some (FE c e, c) ∧ M_errorOf_452 w m = some (e, m) ∧ (0 ≤ e ∧ e ≤ 11) ∧ (e = 0 → (w = 86 → 0 < l) ∧ (w = 81 → M_isRepeated m = some (1, m))) := by
    unfold Job_errorOf_186 M_errorOf_452 Settings_saved
    rw [hw, hm.2.1, hm.2.2.1, g_bi_s, w_nat (by omega)]
    by_cases a : w = 86
    · rw [if_pos a, if_pos a]
      by_cases b : (l : Int) = 0
      · rw [if_pos b, if_pos b]
        exact ⟨10, by rw [FE_n (by decide)], rfl, by decide, fun e => (by cases e)⟩
      · rw [if_neg b, if_neg b]
        exact ⟨e1, a1, a2, a3, fun e => ⟨fun _ => by omega, a4 e⟩⟩
    · rw [if_neg a, if_neg a]
      exact ⟨e1, a1, a2, a3, fun e => ⟨fun x => absurd x a, a4 e⟩⟩
  obtain ⟨e2, b1, b2, b3, b4⟩ := q2
  have q3 : ∃ e : Int, Job_errorOf_169 w c = some (FE c e, c) ∧ M_errorOf_438 w m = some (e, m) ∧ (0 ≤ e ∧ e ≤ 11) ∧ (e = 0 → (w = 85 → l < 4) ∧ (w = 86 → 0 < l) ∧ (w = 81 → M_isRepeated m = some (1, m))) := by
    unfold Job_errorOf_169 M_errorOf_438 Settings_saved
    rw [hw, hm.2.1, hm.2.2.1, g_bi_s, w_nat (by omega)]
    by_cases a : w = 85
    · rw [if_pos a, if_pos a]
      by_cases b : (l : Int) = 4
      · rw [if_pos b, if_pos b]
        exact ⟨10, by rw [FE_n (by decide)], rfl, by decide, fun e => (by cases e)⟩
      · rw [if_neg b, if_neg b]
        exact ⟨e2, b1, b2, b3, fun e => ⟨fun _ => by omega, b4 e⟩⟩
    · rw [if_neg a, if_neg a]
      exact ⟨e2, b1, b2, b3, fun e => ⟨fun x => absurd x a, b4 e⟩⟩
  obtain ⟨e3, d1, d2, d3, d4⟩ := q3
  unfold Job_errorOf_150 M_errorOf_375 Pages_isFull
  rw [hw, if_neg h70, if_neg h69, hg.2.1, hg.2.2.1, w_nat (by omega)]
  by_cases a : w = 80
  · rw [if_pos a, if_pos a]
    by_cases b : (k : Int) < 8
    · rw [if_pos b, g_bi_s, if_pos (show w32 0 = 0 from rfl), if_neg (show ¬ (k : Int) = 8 by omega)]
      exact ⟨e3, d1, d2, d3, fun e => ⟨fun _ => by omega, d4 e⟩⟩
    · rw [if_neg b, g_bi_s, if_neg (show ¬ w32 1 = 0 by decide), if_pos (show (k : Int) = 8 by omega)]
      exact ⟨9, by rw [FE_n (by decide)], rfl, by decide, fun e => (by cases e)⟩
  · rw [if_neg a, if_neg a]
    exact ⟨e3, d1, d2, d3, fun e => ⟨fun x => absurd x a, d4 e⟩⟩
/-- F and E -/
theorem fe_both {odd : Int} (ho : (w = 70 ∧ odd = 0) ∨ (w = 69 ∧ odd = 1)) (hm : JM l c m) (hp : JP s c m) (hg : JG k c m) (hz : ∀ j, j < 64 → c 17 j = 0) : ∃ (e : Int) (c1 m1 : gS), Job_errorOf_139 w c = some (FE c1 e, c1) ∧ M_errorOf_375 w m = some (e, m1) ∧ (0 ≤ e ∧ e ≤ 11) ∧ (e = 0 → TRd (m 59) (m 60) (m 61) s odd c1 48 ∧ m 49 36 + (tot (gin (m 63) (m 59) (m 60) (m 61) s odd) 48 : Nat) ≤ 250) ∧ (∀ j, j < 64 → c1 17 j = 0) ∧ fC rC c c1 ∧ fM i65 m m1 := by
  have ho2 : odd = 0 ∨ odd = 1 := by omega
  obtain ⟨j1, j2, j3, j4, j5, j6, -, -⟩ := hg
  obtain ⟨c1, t1, t2, t3, t4⟩ := trace_is ho2 hp.pd hz
  have hm1 : JM l c1 m := JM_congr (by rw [t4 21 rfl]) (t4 22 rfl) (t4 23 rfl) (t4 24 rfl) (t4 25 rfl) (t4 26 rfl) (t4 27 rfl) rfl rfl rfl hm
  have mk := marks_is hm1 t2
  obtain ⟨m1, l1, l2, l3⟩ := look_is (odd := odd) ho2 (pc_of hm hp)
  have tb := tot_bd (gin (m 63) (m 59) (m 60) (m 61) s odd) 48
  obtain ⟨T, hT⟩ : ∃ T : Nat, T = tot (gin (m 63) (m 59) (m 60) (m 61) s odd) 48 := ⟨_, rfl⟩
  rw [← hT] at mk l1 tb
  rw [← hT]
  have c34 : c1 34 3 = m 49 36 := by rw [t4 34 rfl]; exact j4
  have wT : w32 (m 49 36 + (T : Int)) = m 49 36 + (T : Int) := w32_id (by omega) (by omega)
  have e19 : Job_marksTooMuch_19 odd c = some (if m 49 36 + (T : Int) ≤ 250 then 0 else 1, c1) := by
    unfold Job_marksTooMuch_19
    rw [t1, g_bi_s, mk, g_bi_s, c34, wT]
    by_cases q : m 49 36 + (T : Int) ≤ 250
    · rw [if_pos q, if_pos q]
    · rw [if_neg q, if_neg q]
  have eC : Job_marksTooMuch w c = some (if m 49 36 + (T : Int) ≤ 250 then 0 else 1, c1) := by
    unfold Job_marksTooMuch
    rcases ho with ⟨a, b⟩ | ⟨a, b⟩
    · subst a b; rw [if_neg (by decide)]; exact e19
    · subst a b; rw [if_pos (by decide)]; exact e19
  have eM : M_errorOf_375 w m = some (if m 49 36 + (T : Int) ≤ 250 then 0 else 8, m1) := by
    have e403 : M_errorOf_403 (m 49 36) (1 - odd) m = some (if m 49 36 + (T : Int) ≤ 250 then 0 else 8, m1) := by
      unfold M_errorOf_403
      rw [l1, g_bi_s, wT]
      by_cases q : m 49 36 + (T : Int) ≤ 250
      · rw [if_pos q, if_pos q]
      · rw [if_neg q, if_neg q]
    unfold M_errorOf_375 M_errorOf_387
    rcases ho with ⟨a, b⟩ | ⟨a, b⟩
    · subst a b
      rw [if_pos (by decide), if_pos (by decide)]
      exact e403
    · subst a b
      rw [if_neg (by decide), if_pos (by decide), if_neg (by decide)]
      exact e403
  have e150 : Job_errorOf_150 w c1 = some (FE c1 0, c1) := by
    unfold Job_errorOf_150 Job_errorOf_169 Job_errorOf_186 Job_errorOf_205
    rcases ho with ⟨a, -⟩ | ⟨a, -⟩ <;> subst a <;> rw [if_neg (by decide), if_neg (by decide), if_neg (by decide), if_neg (by decide), e225]
  unfold Job_errorOf_139
  rw [eC, eM, g_bi_s]
  by_cases q : m 49 36 + (T : Int) ≤ 250
  · rw [if_pos q, if_pos q, if_pos (show w32 0 = 0 from rfl), e150]
    exact ⟨0, c1, m1, rfl, rfl, by decide, fun _ => ⟨t2, q⟩, t3, t4, l3⟩
  · rw [if_neg q, if_neg q, if_neg (show ¬ w32 1 = 0 by decide)]
    exact ⟨8, c1, m1, by rw [FE_n (by decide)], rfl, by decide, fun e => (by cases e), t3, t4, l3⟩
/-- what a word with no error can count on, of path and pages -/
def okP (w : Int) (l s k : Nat) (c1 m : gS) : Prop := (w = 76 ∨ w = 67 ∨ w = 90 → 0 < s) ∧ (w = 77 → s < 200) ∧ (w = 76 → (s : Int) + m 49 28 < 200) ∧ (w = 67 → (s : Int) + m 49 28 + 8 ≤ 200) ∧ (w = 70 → TRd (m 59) (m 60) (m 61) s 0 c1 48 ∧ m 49 36 + (tot (gin (m 63) (m 59) (m 60) (m 61) s 0) 48 : Nat) ≤ 250) ∧ (w = 69 → TRd (m 59) (m 60) (m 61) s 1 c1 48 ∧ m 49 36 + (tot (gin (m 63) (m 59) (m 60) (m 61) s 1) 48 : Nat) ≤ 250) ∧ (w = 80 → k < 8) ∧ (w = 85 → l < 4) ∧ (w = 86 → 0 < l) ∧ (w = 81 → M_isRepeated m = some (1, m))
theorem path_err (hw : w32 w = w) (hm : JM l c m) (hp : JP s c m) (hg : JG k c m) (hu : CU L D c m) (hz : ∀ j, j < 64 → c 17 j = 0) : ∃ (e : Int) (c1 m1 : gS), (if w = 76 then Job_errorOf_92 w c else if w = 67 then Job_errorOf_92 w c else if w = 90 then Job_errorOf_92 w c else Job_errorOf_105 w c) = some (FE c1 e, c1) ∧ M_errorOf_283 w m = some (e, m1) ∧ (0 ≤ e ∧ e ≤ 11) ∧ (e = 0 → okP w l s k c1 m) ∧ (∀ j, j < 64 → c1 17 j = 0) ∧ fC rC c c1 ∧ fM i65 m m1 := by
  obtain ⟨p1, p2, p3, -, p5, p6, p7, -⟩ := id hp
  have hcl : m 49 28 = 0 ∨ m 49 28 = 1 := by rcases p6 with x | x; exact Or.inl x; exact Or.inr x.1
  have wcl : w32 (m 49 28) = m 49 28 := w32_01 hcl
  have r1 : 0 ≤ 1 + m 49 28 ∧ 1 + m 49 28 ≤ 9 := by rcases hcl with x | x <;> rw [x] <;> decide
  have r8 : 0 ≤ 8 + m 49 28 ∧ 8 + m 49 28 ≤ 9 := by rcases hcl with x | x <;> rw [x] <;> decide
  have plC : ∀ a : Int, Path_placesFor a c = some (a + m 49 28, c) := by
    intro a
    unfold Path_placesFor
    rw [p5, wcl]
    rcases hcl with x | x
    · rw [if_pos x, x, Int.add_zero]
    · rw [if_neg (by omega), x]
  have plM : ∀ a : Int, M_placesFor a m = some (a + m 49 28, m) := by
    intro a
    unfold M_placesFor
    rw [wcl]
    rcases hcl with x | x
    · rw [if_pos x, x]
    · rw [if_neg (by omega), x]
  have no0 : ∀ e : Int, e = 7 ∨ e = 6 → ∃ (e' : Int) (c1 m1 : gS), some (e, c) = some (FE c1 e', c1) ∧ some (e, m) = some (e', m1) ∧ (0 ≤ e' ∧ e' ≤ 11) ∧ (e' = 0 → okP w l s k c1 m) ∧ (∀ j, j < 64 → c1 17 j = 0) ∧ fC rC c c1 ∧ fM i65 m m1 := by
    intro e he
    exact ⟨e, c, m, by rw [FE_n (by omega)], rfl, by omega, fun x => by omega, hz, fC_rf _ _, fM_rf _ _⟩
  -- the rest behind the places
  have rest : (w = 76 ∨ w = 67 ∨ w = 90 → 0 < s) → (w = 77 → s < 200) → (w = 76 → (s : Int) + m 49 28 < 200) → (w = 67 → (s : Int) + m 49 28 + 8 ≤ 200) → ∃ (e : Int) (c1 m1 : gS), (if w = 70 then Job_errorOf_139 w c else if w = 69 then Job_errorOf_139 w c else Job_errorOf_150 w c) = some (FE c1 e, c1) ∧ M_errorOf_375 w m = some (e, m1) ∧ (0 ≤ e ∧ e ≤ 11) ∧ (e = 0 → okP w l s k c1 m) ∧ (∀ j, j < 64 → c1 17 j = 0) ∧ fC rC c c1 ∧ fM i65 m m1 := by
    intro h1 h2 h3 h4
    by_cases a : w = 70
    · rw [if_pos a]
      obtain ⟨e, c1, m1, r1, r2, r3, r4, r5, r6, r7⟩ := fe_both (Or.inl ⟨a, rfl⟩) hm hp hg hz
      exact ⟨e, c1, m1, r1, r2, r3, fun x => ⟨h1, h2, h3, h4, fun _ => r4 x, fun y => by omega, fun y => by omega, fun y => by omega, fun y => by omega, fun y => by omega⟩, r5, r6, r7⟩
    · rw [if_neg a]
      by_cases b : w = 69
      · rw [if_pos b]
        obtain ⟨e, c1, m1, r1, r2, r3, r4, r5, r6, r7⟩ := fe_both (Or.inr ⟨b, rfl⟩) hm hp hg hz
        exact ⟨e, c1, m1, r1, r2, r3, fun x => ⟨h1, h2, h3, h4, fun y => absurd y a, fun _ => r4 x, fun y => by omega, fun y => by omega, fun y => by omega, fun y => by omega⟩, r5, r6, r7⟩
      · rw [if_neg b]
        obtain ⟨e, r1, r2, r3, r4⟩ := tail_both hw a b hm hg hu
        exact ⟨e, c, m, r1, r2, r3, fun x => ⟨h1, h2, h3, h4, fun y => absurd y a, fun y => absurd y b, (r4 x).1, (r4 x).2.1, (r4 x).2.2.1, (r4 x).2.2.2⟩, hz, fC_rf _ _, fM_rf _ _⟩
  have e105 : ∀ r : Int, Job_placesFor w c = some (r, c) → (0 ≤ r ∧ r ≤ 9) → Job_errorOf_105 w c = if (s : Int) + r ≤ 200 then (if w = 70 then Job_errorOf_139 w c else if w = 69 then Job_errorOf_139 w c else Job_errorOf_150 w c) else some (7, c) := by
    intro r hr hr2
    unfold Job_errorOf_105
    rw [hr, g_bi_s, p2, w32_id (z := (s : Int) + r) (by omega) (by omega), hw]
  by_cases a76 : w = 76
  · rw [if_pos a76]
    have er := e105 (1 + m 49 28) (by unfold Job_placesFor; rw [hw, if_neg (by omega), if_pos a76, plC, g_bi_s]) r1
    unfold Job_errorOf_92 M_errorOf_283 M_errorOf_301 M_errorOf_311 M_errorOf_327
    rw [hw, p2, p7, w_nat (by omega), if_pos a76, er]
    by_cases z : s = 0
    · rw [if_pos (show ((s : Nat) : Int) = 0 by omega), if_pos z, if_pos (show w32 0 = 0 from rfl)]
      exact no0 6 (Or.inr rfl)
    · rw [if_neg (show ¬ ((s : Nat) : Int) = 0 by omega), if_neg z, if_neg (show ¬ w32 1 = 0 by decide), if_neg (show ¬ w = 77 by omega), if_pos a76, plM, g_bi_s, p3, w32_id (z := (s : Int) + (1 + m 49 28)) (by omega) (by omega)]
      by_cases y : (s : Int) + (1 + m 49 28) ≤ 200
      · rw [if_pos y, if_neg (show ¬ 200 < (s : Int) + (1 + m 49 28) by omega)]
        unfold M_errorOf_349
        rw [hw, if_neg (show ¬ w = 67 by omega)]
        exact rest (fun _ => by omega) (fun x => by omega) (fun _ => by omega) (fun x => by omega)
      · rw [if_neg y, if_pos (show 200 < (s : Int) + (1 + m 49 28) by omega)]
        exact no0 7 (Or.inl rfl)
  rw [if_neg a76]
  by_cases a67 : w = 67
  · rw [if_pos a67]
    have er := e105 (8 + m 49 28) (by unfold Job_placesFor; rw [hw, if_pos a67, plC, g_bi_s]) r8
    unfold Job_errorOf_92 M_errorOf_283 M_errorOf_301 M_errorOf_311 M_errorOf_327
    rw [hw, p2, p7, w_nat (by omega), if_neg a76, if_pos a67, er]
    by_cases z : s = 0
    · rw [if_pos (show ((s : Nat) : Int) = 0 by omega), if_pos z, if_pos (show w32 0 = 0 from rfl)]
      exact no0 6 (Or.inr rfl)
    · rw [if_neg (show ¬ ((s : Nat) : Int) = 0 by omega), if_neg z, if_neg (show ¬ w32 1 = 0 by decide), if_neg (show ¬ w = 77 by omega), if_neg a76]
      unfold M_errorOf_349
      rw [hw, if_pos a67, plM, g_bi_s, p3, w32_id (z := (s : Int) + (8 + m 49 28)) (by omega) (by omega)]
      by_cases y : (s : Int) + (8 + m 49 28) ≤ 200
      · rw [if_pos y, if_pos y]
        exact rest (fun _ => by omega) (fun x => by omega) (fun x => by omega) (fun _ => by omega)
      · rw [if_neg y, if_neg y]
        exact no0 7 (Or.inl rfl)
  rw [if_neg a67]
  by_cases a90 : w = 90
  · rw [if_pos a90]
    have er := e105 0 (by unfold Job_placesFor; rw [hw, if_neg a67, if_neg a76, if_neg (by omega)]) (by omega)
    unfold Job_errorOf_92 M_errorOf_283 M_errorOf_301 M_errorOf_311 M_errorOf_327
    rw [hw, p2, p7, w_nat (by omega), if_neg a76, if_neg a67, if_pos a90, er]
    by_cases z : s = 0
    · rw [if_pos (show ((s : Nat) : Int) = 0 by omega), if_pos z, if_pos (show w32 0 = 0 from rfl)]
      exact no0 6 (Or.inr rfl)
    · rw [if_neg (show ¬ ((s : Nat) : Int) = 0 by omega), if_neg z, if_neg (show ¬ w32 1 = 0 by decide), if_neg (show ¬ w = 77 by omega), if_neg a76, if_pos (show (s : Int) + 0 ≤ 200 by omega)]
      unfold M_errorOf_349
      rw [hw, if_neg a67]
      exact rest (fun _ => by omega) (fun x => by omega) (fun x => by omega) (fun x => by omega)
  rw [if_neg a90]
  unfold M_errorOf_283 M_errorOf_311 M_errorOf_327 M_errorOf_349
  rw [hw, if_neg a76, if_neg a67, if_neg a90, if_neg a76, if_neg a67]
  by_cases a77 : w = 77
  · have er := e105 1 (by unfold Job_placesFor; rw [hw, if_neg a67, if_neg a76, if_pos a77]) (by omega)
    rw [er, if_pos a77, p3, w_nat (by omega)]
    by_cases y : (s : Int) + 1 ≤ 200
    · rw [if_pos y, if_neg (show ¬ (s : Int) = 200 by omega)]
      exact rest (fun x => by omega) (fun _ => by omega) (fun x => by omega) (fun x => by omega)
    · rw [if_neg y, if_pos (show (s : Int) = 200 by omega)]
      exact no0 7 (Or.inl rfl)
  · have er := e105 0 (by unfold Job_placesFor; rw [hw, if_neg a67, if_neg a76, if_neg a77]) (by omega)
    rw [er, if_neg a77, if_pos (show (s : Int) + 0 ≤ 200 by omega)]
    exact rest (fun x => by omega) (fun x => absurd x a77) (fun x => by omega) (fun x => by omega)
end ER

/-! the press: load, cover, stick, section, press -/
def ruM (q k : Nat) : Bool := (decide (q = 49) && (decide (k = 5) || decide (k = 8) || decide (k = 11) || decide (k = 12) || (decide (40 ≤ k) && decide (k ≤ 47)))) || (decide (67 ≤ q) && decide (q ≤ 73))
theorem RP_congr {n : Int} {c c' m m' : gS} (hc : ∀ q, pcC q = true → c' q = c q) (hm : ∀ q k, ruM q k = true → m' q k = m q k) (h : RP n c m) : RP n c' m' := by
  have e37 := hc 37 rfl
  have e38 := hc 38 rfl
  have e39 := hc 39 rfl
  have e40 := hc 40 rfl
  have e41 := hc 41 rfl
  have e42 := hc 42 rfl
  have e43 := hc 43 rfl
  have e45 := hc 45 rfl
  have f67 : m' 67 = m 67 := funext fun k => hm 67 k (by simp [ruM])
  have f68 : m' 68 = m 68 := funext fun k => hm 68 k (by simp [ruM])
  have f69 : m' 69 = m 69 := funext fun k => hm 69 k (by simp [ruM])
  have f70 : m' 70 = m 70 := funext fun k => hm 70 k (by simp [ruM])
  have f71 : m' 71 = m 71 := funext fun k => hm 71 k (by simp [ruM])
  have f73 : m' 73 = m 73 := funext fun k => hm 73 k (by simp [ruM])
  have g5 := hm 49 5 rfl
  have g8 := hm 49 8 rfl
  have g11 := hm 49 11 rfl
  have g12 := hm 49 12 rfl
  have g40 := hm 49 40 rfl
  have g41 := hm 49 41 rfl
  have g42 := hm 49 42 rfl
  have g43 := hm 49 43 rfl
  have g44 := hm 49 44 rfl
  have g45 := hm 49 45 rfl
  have g46 := hm 49 46 rfl
  have g47 := hm 49 47 rfl
  unfold RP pE pS pG pO pI pK pQ sdsM at *
  simp only [e37, e38, e39, e40, e41, e42, e43, e45, f67, f68, f69, f70, f71, f73, g5, g8, g11, g12, g40, g41, g42, g43, g44, g45, g46, g47]
  exact h
theorem RP_code {n : Int} {c m : gS} {v : Int} (h : RP n c m) : RP n c (g_up m 49 0 v) := by
  refine RP_congr (fun q _ => rfl) (fun q k hk => ?_) h
  rw [g_up_at, if_neg]
  rintro ⟨rfl, rfl⟩
  cases hk
theorem fM_code {m : gS} {v : Int} : fM pcM m (g_up m 49 0 v) := fM_up rfl
def oP (n : Int) (f g : gS → gA) (c m : gS) : Prop := ∃ (z : Int) (c' m' : gS), f c = some (z, c') ∧ g m = some (z, m') ∧ RP n c' m' ∧ fC pcC c c' ∧ fM pcM m m'
theorem op_load {n : Int} {c m : gS} {a : Int} (ha : w32 a = a) (h : RP n c m) : oP n (B_load a) (M_load a) c m := by
  obtain ⟨hE, hS, hG, hO, hI, hK, hQ⟩ := id h
  have e7 := hE.2.1
  unfold oP B_load M_load
  simp (disch := decide) only [g_le_s, ha, up_n, up_y]
  rw [e7]
  by_cases h1 : a < 1
  · rw [if_pos h1, if_pos h1]
    exact ⟨_, _, _, rfl, rfl, RP_code h, fC_rf _ _, fM_code⟩
  rw [if_neg h1, if_neg h1]
  by_cases h2 : 200 < a
  · rw [if_pos h2, if_pos h2]
    exact ⟨_, _, _, rfl, rfl, RP_code h, fC_rf _ _, fM_code⟩
  rw [if_neg h2, if_neg h2]
  have hw : w32 (m 49 40 + a) = m 49 40 + a := w32_id (by have := hG.2.2.1; omega) (by have := hG.2.2.2.1; omega)
  rw [hw]
  by_cases h3 : m 49 40 + a ≤ 500
  · rw [if_pos h3, if_pos h3]
    refine ⟨_, _, _, rfl, rfl, ?_, fC_up rfl, fM_tr fM_code (fM_up rfl)⟩
    have hG3 := hG.2.2.1
    unfold RP pE pS pG pO pI pK pQ sdsM at *
    simp (disch := decide) only [up_n, up_y, g_up_ne]
    refine ⟨⟨hE.1, trivial, hE.2.2⟩, hS, ⟨hG.1, hG.2.1, by omega, h3, hG.2.2.2.2⟩, hO, hI, hK, hQ⟩
  · rw [if_neg h3, if_neg h3]
    exact ⟨_, _, _, rfl, rfl, RP_code h, fC_rf _ _, fM_code⟩
theorem op_cover {n : Int} {c m : gS} {a : Int} (ha : a = 0 ∨ a = 1) (h : RP n c m) : oP n (B_cover a) (M_cover a) c m := by
  obtain ⟨hE, hS, hG, hO, hI, hK, hQ⟩ := id h
  have e8 := hE.2.2.1
  have wa := w32_01 ha
  have wo := w32_01 hG.2.2.2.2.1
  have hRP : RP n (g_up c 40 8 a) (g_up (g_up m 49 0 0) 49 46 a) := by
    unfold RP pE pS pG pO pI pK pQ sdsM at *
    simp (disch := decide) only [up_n, up_y, g_up_ne]
    refine ⟨⟨hE.1, hE.2.1, trivial, hE.2.2.2⟩, hS, ⟨hG.1, hG.2.1, hG.2.2.1, hG.2.2.2.1, ha, hG.2.2.2.2.2⟩, hO, hI, hK, hQ⟩
  unfold oP B_cover B_cover_16 M_cover
  simp (disch := decide) only [g_le_s, wa, up_n, up_y, e8, wo, if_pos ha]
  by_cases h1 : m 49 46 = a
  · rw [if_pos h1, if_pos h1, if_pos (by decide)]
    exact ⟨_, _, _, rfl, rfl, hRP, fC_up rfl, fM_tr fM_code (fM_up rfl)⟩
  · rw [if_neg h1, if_neg h1, if_pos (by decide)]
    exact ⟨_, _, _, rfl, rfl, hRP, fC_up rfl, fM_tr fM_code (fM_up rfl)⟩
theorem sec_in {a : Int} (h1 : ¬ a < 0) (h2 : ¬ 4 ≤ a) : a.toNat < 4 ∧ (0 ≤ a ∧ a < 4) := by omega
theorem op_stick {n : Int} {c m : gS} {a b : Int} (ha : w32 a = a) (hb : b = 0 ∨ b = 1) (h : RP n c m) : oP n (B_stick a b) (M_stick a b) c m := by
  obtain ⟨hE, hS, hG, hO, hI, hK, hQ⟩ := id h
  unfold oP B_stick M_stick Machine_isSection M_isSection
  simp (disch := decide) only [g_le_s, ha, i_nar_01 hb]
  by_cases h1 : a < 0
  · rw [if_pos h1, if_pos h1]
    exact ⟨_, _, _, rfl, rfl, RP_code h, fC_rf _ _, fM_code⟩
  by_cases h2 : 4 ≤ a
  · rw [if_neg h1, if_neg h1, if_pos h2, if_pos h2]
    exact ⟨_, _, _, rfl, rfl, RP_code h, fC_rf _ _, fM_code⟩
  obtain ⟨h3, h4⟩ := sec_in h1 h2
  rw [if_neg h1, if_neg h1, if_neg h2, if_neg h2]
  simp only [g_bi_s, show ¬ (w32 1 = 0) by decide, if_false, if_pos h4]
  refine ⟨_, _, _, rfl, rfl, ?_, fC_up rfl, fM_tr fM_code (fM_up (by simp [pcM]))⟩
  unfold RP pE pS pG pO pI pK pQ sdsM at *
  simp (disch := decide) only [up_n, up_y, g_up_ne]
  refine ⟨hE, fun i hi => ?_, hG, hO, hI, hK, hQ⟩
  obtain ⟨s1, s2, s3, s4⟩ := hS i hi
  by_cases e : i = a.toNat
  · subst e
    rw [up_y, up_y]
    exact ⟨s1, s2, rfl, hb⟩
  · rw [up_n (by omega), up_n (by omega), up_n (by omega)]
    exact ⟨s1, s2, s3, s4⟩
theorem op_section {n : Int} {c m : gS} {a b : Int} (ha : w32 a = a) (hb : w32 b = b) (h : RP n c m) : oP n (B_section a b) (M_section a b) c m := by
  obtain ⟨hE, hS, hG, hO, hI, hK, hQ⟩ := id h
  have key : ∃ z, B_section a b c = some (z, c) ∧ M_section a b m = some (z, g_up m 49 0 0) := by
    unfold B_section M_section Machine_isSection M_isSection
    simp (disch := decide) only [g_le_s, ha, hb, g_up_ne]
    by_cases h1 : a < 0
    · rw [if_pos h1, if_pos h1]
      exact ⟨_, rfl, rfl⟩
    by_cases h2 : 4 ≤ a
    · rw [if_neg h1, if_neg h1, if_pos h2, if_pos h2]
      exact ⟨_, rfl, rfl⟩
    obtain ⟨h3, h4⟩ := sec_in h1 h2
    obtain ⟨s1, s2, s3, s4⟩ := hS _ h3
    rw [if_neg h1, if_neg h1, if_neg h2, if_neg h2]
    simp (disch := decide) only [g_bi_s, show ¬ (w32 1 = 0) by decide, if_false, if_pos h4, g_up_ne, s1, s2, s3]
    by_cases b0 : b = 0
    · rw [if_pos b0, if_pos b0]; exact ⟨_, rfl, rfl⟩
    rw [if_neg b0, if_neg b0]
    by_cases b1 : b = 1
    · rw [if_pos b1, if_pos b1]; exact ⟨_, rfl, rfl⟩
    rw [if_neg b1, if_neg b1]
    by_cases b2 : b = 2
    · rw [if_pos b2, if_pos b2]
      by_cases b3 : w32 (m 71 a.toNat) = 0
      · rw [if_pos b3, if_pos b3]; exact ⟨_, rfl, rfl⟩
      · rw [if_neg b3, if_neg b3]; exact ⟨_, rfl, rfl⟩
    · rw [if_neg b2, if_neg b2]; exact ⟨_, rfl, rfl⟩
  obtain ⟨z, k1, k2⟩ := key
  exact ⟨z, c, _, k1, k2, RP_code h, fC_rf _ _, fM_code⟩

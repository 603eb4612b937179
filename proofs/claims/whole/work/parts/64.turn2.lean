/-! a section's turn on each side, by cases -/
section CS
variable {c : gS} {k t : Nat} {z : Int}
theorem kin {k : Nat} (hk : k < 4) : 0 ≤ w32 (k : Int) ∧ w32 (k : Int) < 4 := by rw [w_nat (by omega)]; omega
theorem ktn {k : Nat} (hk : k < 4) : (w32 (k : Int)).toNat = k := by rw [w_nat (by omega)]; exact Int.toNat_natCast k
theorem mf_none (hk : k < 4) (h : Machine_wayFrom k c = some (-1, c)) : Machine_moveFrom k c = some (0, g_up c 45 k 0) := by
  unfold Machine_moveFrom Machine_moveFrom_20 Machine_moveFrom_40
  rw [h, g_bi_s, if_pos (by decide), if_pos (kin hk), g_le_s, if_pos (by decide), ktn hk]
theorem mf_stick (hk : k < 4) (h : Machine_wayFrom k c = some (z, c)) (hz : w32 z ≠ -1) (hs : c 43 k = 1) : Machine_moveFrom k c = some (0, g_up c 45 k (c 45 k + 1)) := by
  unfold Machine_moveFrom Machine_moveFrom_40
  rw [h, g_bi_s, if_neg hz, if_pos (kin hk), ktn hk, hs, if_neg (by decide), if_pos (kin hk), if_pos (kin hk), g_le_s, if_neg hz, if_pos (kin hk), g_up_ne (by decide), hs, if_neg (by decide)]
theorem mf_move (hk : k < 4) (h : Machine_wayFrom k c = some (z, c)) (hz : w32 z ≠ -1) (hs : c 43 k = 0) : Machine_moveFrom k c = g_bi (Machine_move k z (g_up c 45 k 0)) fun _ s => some (0, s) := by
  unfold Machine_moveFrom Machine_moveFrom_20 Machine_moveFrom_40
  rw [h, g_bi_s, if_neg hz, if_pos (kin hk), ktn hk, hs, if_pos (by decide), if_pos (kin hk), g_le_s, if_neg hz, if_pos (kin hk), g_up_ne (by decide), hs, if_pos (by decide)]
theorem mv_to (hk : k < 4) (ht : t < 4) : Machine_move k t c = some (0, g_up (g_up (g_up (g_up (g_up c 41 t (c 41 k)) 42 t (if k = 1 then c 42 k + 1 else c 42 k)) 44 t 1) 41 k (-1)) 42 k 0) := by
  have e : Machine_move k t c = Machine_move_22 k t (if k = 1 then c 42 k + 1 else c 42 k) c := by
    unfold Machine_move
    rw [if_pos (kin hk), if_pos (kin hk), ktn hk]
    by_cases h1 : k = 1
    · subst h1
      rw [if_pos (show w32 ((1 : Nat) : Int) = 1 by decide), if_pos rfl]
    · rw [if_neg (by rw [w_nat (by omega)]; omega), if_neg h1]
  rw [e]
  unfold Machine_move_22 Machine_move_56 Machine_place Machine_empty
  rw [if_neg (by rw [w_nat (by omega)]; omega), if_pos (kin hk), if_pos (kin ht), g_le_s, if_pos (kin ht), g_le_s, if_pos (kin ht), g_le_s, g_bi_s, if_pos (kin hk), g_le_s, if_pos (kin hk), g_le_s, g_bi_s, ktn hk, ktn ht, i_nar_01 (Or.inr rfl)]
end CS
section MS
variable {m : gS} {k t : Nat}
theorem mt_reset (hk : k < 4) (h : M_goes k m = some (0, m)) (hm : m 72 k = 0) : M_turn k m = some (0, g_up m 69 k 0) := by
  unfold M_turn
  rw [h, g_bi_s, if_pos (by decide), if_pos (kin hk), ktn hk, hm, if_pos (by decide), if_pos (kin hk), g_le_s]
theorem mt_keep (hk : k < 4) (h : M_goes k m = some (0, m)) (hm : m 72 k = 1) : M_turn k m = some (0, m) := by
  unfold M_turn
  rw [h, g_bi_s, if_pos (by decide), if_pos (kin hk), ktn hk, hm, if_neg (by decide)]
theorem mt_stick (hk : k < 4) (h : M_goes k m = some (1, m)) (hs : m 71 k = 1) (h0 : 0 ≤ m 69 k) (h3 : m 69 k ≤ 3) : M_turn k m = some (if m 69 k + 1 = 4 then 1 else 0, g_up m 69 k (m 69 k + 1)) := by
  unfold M_turn
  rw [h, g_bi_s, if_neg (by decide), if_pos (kin hk), ktn hk, hs, if_neg (by decide), if_pos (kin hk), if_pos (kin hk), g_le_s, if_pos (kin hk), up_y, w32_id (by omega) (by omega)]
  split <;> rfl
theorem sh_to (hk : k < 4) (ht : t < 4) : M_shift k t m = some (0, g_up (g_up (g_up (g_up (g_up (g_up (g_up m 67 t (m 67 k)) 68 t (m 68 k)) 69 t 0) 72 t 1) 67 k (-1)) 68 k 0) 69 k 0) := by
  unfold M_shift M_empty
  rw [if_pos (kin hk), if_pos (kin ht), g_le_s, if_pos (kin hk), if_pos (kin ht), g_le_s, if_pos (kin ht), g_le_s, if_pos (kin ht), g_le_s, if_pos (kin hk), g_le_s, if_pos (kin hk), g_le_s, if_pos (kin hk), g_le_s, g_bi_s, ktn hk, ktn ht, i_nar_01 (Or.inr rfl), g_up_ne (sg := m) (q := 67) (i := 68) (by decide)]
end MS
theorem w_in {z : Int} (h : z = -1 ∨ (0 ≤ z ∧ z < 32)) : w32 z = z := by rcases h with rfl | h <;> exact w32_id (by omega) (by omega)
section TT
variable {P : Nat → Bool} {n : Int} {c m : gS}
/-- the outcome of a turn -/
def tR (k : Nat) (P : Nat → Bool) (n : Int) (c m : gS) : Prop := ∃ (z : Int) (c' m' : gS), Machine_moveFrom k c = some (0, c') ∧ M_turn k m = some (z, m') ∧ DT (pW k P) n c' m' ∧ (z = 0 ∨ z = 1) ∧ (z = 1 ↔ m' 69 k = 4) ∧ (∀ i, i < 4 → i ≠ k → P i = true → m' 69 i = m 69 i) ∧ fC pcC c c' ∧ fM pcT m m'
theorem DT_w {k : Nat} (h : DT P n c m) (hk : k < 4) : c 41 k = m 67 k ∧ w32 (m 67 k) = m 67 k ∧ c 44 k = m 72 k ∧ w32 (m 72 k) = m 72 k ∧ c 43 k = m 71 k := by
  obtain ⟨hE, hS, hG, hO, hI, hQ, ho, hj, hd⟩ := h
  refine ⟨(hS k hk).1, w_in ((hI.1 k hk).1.imp id fun q => ⟨q.1, ?_⟩), (hd k hk).1, w32_01 (hd k hk).2.1, (hS k hk).2.2.1⟩
  have := hO.2.2.1
  omega
/-- no way out -/
theorem t_none {k : Nat} (h : DT P n c m) (hk : k < 4) (hP : P k = false) (hw : Machine_wayFrom k c = some (-1, c)) (hg : M_goes k m = some (0, m)) : tR k P n c m := by
  obtain ⟨d1, d2, d3, d4, d5, d6, d7, d8, d9⟩ := h.2.2.2.2.2.2.2.2 k hk
  rcases d2 with e | e
  · refine ⟨0, _, _, mf_none hk hw, mt_reset hk hg e, dt_stay (v := 0) h hk (by omega) (by omega) (fun _ => rfl) (fun _ => rfl) ⟨g_up_ne (by decide), g_up_ne (by decide), g_up_ne (by decide), g_up_ne (by decide), g_up_ne (by decide)⟩ (g_up_ne (by decide)) (g_up_ne (by decide)) (g_up_ne (by decide)) (fun i => ?_) ⟨g_up_ne (by decide), g_up_ne (by decide), g_up_ne (by decide), g_up_ne (by decide)⟩ (g_up_ne (by decide)) (g_up_ne (by decide)) (fun i => ?_) (g_up_ne (by decide)), Or.inl rfl, ?_, fun i hi hik _ => ?_, fC_up rfl, fM_up (by simp [pcT])⟩
    · simp [g_up_at]
    · simp [g_up_at]
    · rw [up_y]; omega
    · rw [up_n (by omega)]
  · refine ⟨0, _, _, mf_none hk hw, mt_keep hk hg e, dt_stay (v := 0) h hk (by omega) (by omega) (fun _ => rfl) (fun _ => rfl) ⟨g_up_ne (by decide), g_up_ne (by decide), g_up_ne (by decide), g_up_ne (by decide), g_up_ne (by decide)⟩ (g_up_ne (by decide)) (g_up_ne (by decide)) (g_up_ne (by decide)) (fun i => ?_) ⟨rfl, rfl, rfl, rfl⟩ rfl rfl (fun i => ?_) rfl, Or.inl rfl, ?_, fun i hi hik _ => rfl, fC_up rfl, fM_rf _ _⟩
    · simp [g_up_at]
    · split
      · next q => rw [q]; exact (d3 e).1
      · rfl
    · rw [(d3 e).1]; omega
/-- it sticks -/
theorem t_stick {k : Nat} {z : Int} (h : DT P n c m) (hk : k < 4) (hP : P k = false) (hm : m 72 k = 0) (hin : m 67 k ≠ -1) (hs : m 71 k = 1) (hw : Machine_wayFrom k c = some (z, c)) (hz : w32 z ≠ -1) (hg : M_goes k m = some (1, m)) : tR k P n c m := by
  obtain ⟨d1, d2, d3, d4, d5, d6, d7, d8, d9⟩ := h.2.2.2.2.2.2.2.2 k hk
  obtain ⟨f1, f2⟩ := d9 hP
  have f3 : c 45 k = m 69 k := by
    rcases f2 with f2 | f2 | f2
    · exact f2
    · exact absurd f2 hin
    · omega
  have hs2 : c 43 k = 1 := ((h.2.1 k hk).2.2.1).trans hs
  refine ⟨_, _, _, mf_stick hk hw hz hs2, mt_stick hk hg hs d4 f1, dt_stay (v := m 69 k + 1) h hk (by omega) (by omega) (fun q => by omega) (fun q => absurd q hin) ⟨g_up_ne (by decide), g_up_ne (by decide), g_up_ne (by decide), g_up_ne (by decide), g_up_ne (by decide)⟩ (g_up_ne (by decide)) (g_up_ne (by decide)) (g_up_ne (by decide)) (fun i => ?_) ⟨g_up_ne (by decide), g_up_ne (by decide), g_up_ne (by decide), g_up_ne (by decide)⟩ (g_up_ne (by decide)) (g_up_ne (by decide)) (fun i => ?_) (g_up_ne (by decide)), ?_, ?_, fun i hi hik _ => ?_, fC_up rfl, fM_up (by simp [pcT])⟩
  · simp [g_up_at, f3]
  · simp [g_up_at]
  · split <;> simp
  · rw [up_y]
    split <;> omega
  · rw [up_n (by omega)]
end TT

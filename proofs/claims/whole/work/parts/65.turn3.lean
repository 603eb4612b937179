/-! a section's turn: the sheet goes on; the four sections -/
section TS
variable {P : Nat → Bool} {n : Int} {c m : gS}
theorem t_shift {k t : Nat} {b : gS} (h : DT P n c m) (hk : k < 4) (ht : t < 4) (hkt : k ≠ t) (hm : m 72 k = 0) (hin : m 67 k ≠ -1) (hs : m 71 k = 0) (hfree : m 67 t = -1) (hw : Machine_wayFrom k c = some ((t : Int), c))
    (hb : ∀ q, q ≠ 68 → b q = m q) (hb1 : b 68 k = if k = 1 then m 68 k + 1 else m 68 k) (hb2 : ∀ i, i ≠ k → b 68 i = m 68 i) (hbf : fM pcT m b) (hp1 : b 68 k ≤ sdsM m) (hp2 : t ≠ 2 → b 68 k < sdsM m)
    (hM : M_turn k m = some (0, g_up (g_up (g_up (g_up (g_up (g_up (g_up b 67 t (b 67 k)) 68 t (b 68 k)) 69 t 0) 72 t 1) 67 k (-1)) 68 k 0) 69 k 0)) : tR k P n c m := by
  have hc43 : c 43 k = 0 := ((h.2.1 k hk).2.2.1).trans hs
  have hz : w32 ((t : Nat) : Int) ≠ -1 := by rw [w_nat (by omega)]; omega
  have h42 : c 42 k = m 68 k := (h.2.1 k hk).2.1
  have hC := mf_move hk hw hz hc43
  rw [mv_to hk ht, g_bi_s] at hC
  obtain ⟨s1, s2, s3, s4⟩ := h.2.2.2.2.1.1 k hk
  refine ⟨0, _, _, hC, hM, dt_shift (pr := b 68 k) h hk ht hkt hin hm hfree (by rw [hb1]; split <;> omega) hp1 hp2 ⟨?_, ?_, ?_, ?_, ?_⟩ (fun i => ?_) (fun i => ?_) (fun i => ?_) (fun i => ?_) ⟨?_, ?_, ?_, ?_⟩ (fun i => ?_) (fun i => ?_) (fun i => ?_) (fun i => ?_), Or.inl rfl, ?_, fun i hi hik hPi => ?_, ?_, ?_⟩
  · simp (disch := decide) only [g_up_ne]
  · simp (disch := decide) only [g_up_ne]
  · simp (disch := decide) only [g_up_ne]
  · simp (disch := decide) only [g_up_ne]
  · simp (disch := decide) only [g_up_ne]
  · simp [g_up_at]
  · simp [g_up_at, hb1, h42]
  · simp [g_up_at]
  · simp [g_up_at]
  · simp (disch := decide) only [g_up_ne, hb]
  · simp (disch := decide) only [g_up_ne, hb]
  · simp (disch := decide) only [g_up_ne, hb]
  · simp (disch := decide) only [g_up_ne, hb]
  · simp [g_up_at, hb]
  · by_cases e : i = k
    · simp [g_up_at, e]
    · simp [g_up_at, e, hb2 i e]
  · simp [g_up_at, hb]
  · simp [g_up_at, hb]
  · rw [up_y]; omega
  · rw [up_n (by omega)]
    by_cases e : i = t
    · subst e
      simp (disch := omega) only [g_up_ne, up_y]
      exact ((((h.2.2.2.2.2.2.2.2 i hi).2.2.2.2.2.2.2.1) hPi).2 hfree).symm
    · simp (disch := omega) only [g_up_ne, up_n, hb]
  · exact fC_tr (fC_tr (fC_tr (fC_tr (fC_tr (fC_up rfl) (fC_up rfl)) (fC_up rfl)) (fC_up rfl)) (fC_up rfl)) (fC_up rfl)
  · exact fM_tr (fM_tr (fM_tr (fM_tr (fM_tr (fM_tr (fM_tr hbf (fM_up (by simp [pcT]))) (fM_up (by simp [pcT]))) (fM_up (by simp [pcT]))) (fM_up (by simp [pcT]))) (fM_up (by simp [pcT]))) (fM_up (by simp [pcT]))) (fM_up (by simp [pcT]))
/-- the number that the sections' tests look at -/
theorem DT_n {k : Nat} (h : DT P n c m) (hk : k < 4) : w32 (c 41 k) = m 67 k ∧ w32 (m 67 k) = m 67 k ∧ w32 (c 44 k) = m 72 k ∧ w32 (m 72 k) = m 72 k ∧ w32 (c 42 k) = m 68 k ∧ w32 (m 68 k) = m 68 k ∧ c 43 k = m 71 k ∧ w32 (m 71 k) = m 71 k := by
  obtain ⟨a1, a2, a3, a4, a5⟩ := DT_w h hk
  obtain ⟨s1, s2, s3, s4⟩ := h.2.2.2.2.1.1 k hk
  have e := (h.2.1 k hk).2.1
  have w8 : w32 (m 68 k) = m 68 k := w32_id (by omega) (by omega)
  exact ⟨by rw [a1, a2], a2, by rw [a3, a4], a4, by rw [e, w8], w8, a5, w32_01 (h.2.1 k hk).2.2.2⟩
theorem tn_3 (h : DT P n c m) (hP : P 3 = false) : tR 3 P n c m := by
  obtain ⟨a1, a2, a3, a4, a5, a6, a7, a8⟩ := DT_n h (k := 3) (by decide)
  obtain ⟨b1, b2, b3, b4, b5, b6, b7, b8⟩ := DT_n h (k := 0) (by decide)
  obtain ⟨s1, s2, s3, s4⟩ := h.2.2.2.2.1.1 3 (by decide)
  have hw : Machine_wayFrom ((3 : Nat) : Int) c = if m 67 3 = -1 then some (-1, c) else if m 72 3 = 0 then (if m 67 0 = -1 then some (0, c) else some (-1, c)) else some (-1, c) := by
    show Machine_wayFrom 3 c = _
    unfold Machine_wayFrom Machine_ifFree
    simp (decide := true) only [w_0, w_3, Int.reduceToNat, if_true, if_false, g_bi_s, a1, a3, b1]
    by_cases e1 : m 67 3 = -1 <;> by_cases e2 : m 72 3 = 0 <;> by_cases e3 : m 67 0 = -1 <;> simp [e1, e2, e3, g_bi_s]
  have hg : M_goes ((3 : Nat) : Int) m = if m 67 3 = -1 then some (0, m) else if m 72 3 = 0 then (if m 67 0 = -1 then some (1, m) else some (0, m)) else some (0, m) := by
    show M_goes 3 m = _
    unfold M_goes
    simp (decide := true) only [w_0, w_3, Int.reduceToNat, if_true, if_false, g_bi_s, a2, a4, b2]
  by_cases e1 : m 67 3 = -1
  · rw [if_pos e1] at hw hg
    exact t_none h (by decide) hP hw hg
  rw [if_neg e1] at hw hg
  by_cases e2 : m 72 3 = 0
  · rw [if_pos e2] at hw hg
    by_cases e3 : m 67 0 = -1
    · rw [if_pos e3] at hw hg
      rcases (h.2.1 3 (by decide)).2.2.2 with e4 | e4
      · have hM : M_turn ((3 : Nat) : Int) m = some (0, g_up (g_up (g_up (g_up (g_up (g_up (g_up m 67 0 (m 67 3)) 68 0 (m 68 3)) 69 0 0) 72 0 1) 67 3 (-1)) 68 3 0) 69 3 0) := by
          show M_turn 3 m = _
          unfold M_turn
          rw [show M_goes 3 m = some (1, m) from hg]
          have hsh : M_shift 3 0 m = _ := sh_to (m := m) (k := 3) (t := 0) (by decide) (by decide)
          unfold M_turn_76 M_turn_139 M_turn_153
          simp (decide := true) only [g_bi_s, w_0, w_3, w_1, Int.reduceToNat, if_true, if_false, e4, hsh]
        exact t_shift (b := m) h (by decide) (by decide) (by decide) e2 e1 e4 e3 hw (fun _ _ => rfl) rfl (fun _ _ => rfl) (fM_rf _ _) (s4 e1).1 (fun _ => (s4 e1).2 (by decide)) hM
      · exact t_stick h (by decide) hP e2 e1 e4 hw (by decide) hg
    · rw [if_neg e3] at hw hg
      exact t_none h (by decide) hP hw hg
  · rw [if_neg e2] at hw hg
    exact t_none h (by decide) hP hw hg
theorem tn_1 (h : DT P n c m) (hP : P 1 = false) : tR 1 P n c m := by
  obtain ⟨a1, a2, a3, a4, a5, a6, a7, a8⟩ := DT_n h (k := 1) (by decide)
  obtain ⟨b1, b2, b3, b4, b5, b6, b7, b8⟩ := DT_n h (k := 2) (by decide)
  obtain ⟨s1, s2, s3, s4⟩ := h.2.2.2.2.1.1 1 (by decide)
  have hw : Machine_wayFrom ((1 : Nat) : Int) c = if m 67 1 = -1 then some (-1, c) else if m 72 1 = 0 then (if m 67 2 = -1 then some (2, c) else some (-1, c)) else some (-1, c) := by
    show Machine_wayFrom 1 c = _
    unfold Machine_wayFrom Machine_ifFree
    simp (decide := true) only [w_1, w_2, Int.reduceToNat, if_true, if_false, g_bi_s, a1, a3, b1]
    by_cases e1 : m 67 1 = -1 <;> by_cases e2 : m 72 1 = 0 <;> by_cases e3 : m 67 2 = -1 <;> simp [e1, e2, e3, g_bi_s]
  have hg : M_goes ((1 : Nat) : Int) m = if m 67 1 = -1 then some (0, m) else if m 72 1 = 0 then (if m 67 2 = -1 then some (1, m) else some (0, m)) else some (0, m) := by
    show M_goes 1 m = _
    unfold M_goes
    simp (decide := true) only [w_1, w_2, Int.reduceToNat, if_true, if_false, g_bi_s, a2, a4, b2]
  by_cases e1 : m 67 1 = -1
  · rw [if_pos e1] at hw hg
    exact t_none h (by decide) hP hw hg
  rw [if_neg e1] at hw hg
  by_cases e2 : m 72 1 = 0
  · rw [if_pos e2] at hw hg
    by_cases e3 : m 67 2 = -1
    · rw [if_pos e3] at hw hg
      rcases (h.2.1 1 (by decide)).2.2.2 with e4 | e4
      · have hM : M_turn ((1 : Nat) : Int) m = some (0, g_up (g_up (g_up (g_up (g_up (g_up (g_up (g_up m 68 1 (m 68 1 + 1)) 67 2 (g_up m 68 1 (m 68 1 + 1) 67 1)) 68 2 (g_up m 68 1 (m 68 1 + 1) 68 1)) 69 2 0) 72 2 1) 67 1 (-1)) 68 1 0) 69 1 0) := by
          show M_turn 1 m = _
          unfold M_turn
          rw [show M_goes 1 m = some (1, m) from hg]
          have hsh : M_shift 1 2 (g_up m 68 1 (m 68 1 + 1)) = _ := sh_to (m := g_up m 68 1 (m 68 1 + 1)) (k := 1) (t := 2) (by decide) (by decide)
          unfold M_turn_76 M_turn_139 M_turn_153
          simp (decide := true) only [g_bi_s, g_le_s, w_0, w_1, w_2, Int.reduceToNat, Int.reduceAdd, if_true, if_false, e4, hsh]
        refine t_shift (b := g_up m 68 1 (m 68 1 + 1)) h (by decide) (by decide) (by decide) e2 e1 e4 e3 hw (fun q hq => g_up_ne hq) ?_ (fun i hi => up_n (by omega)) (fM_up (by simp [pcT])) ?_ (fun q => absurd rfl q) hM
        · rw [up_y]; rfl
        · rw [up_y]
          have := (s4 e1).2 (by decide)
          omega
      · exact t_stick h (by decide) hP e2 e1 e4 hw (by decide) hg
    · rw [if_neg e3] at hw hg
      exact t_none h (by decide) hP hw hg
  · rw [if_neg e2] at hw hg
    exact t_none h (by decide) hP hw hg
theorem tn_0 (h : DT P n c m) (hP : P 0 = false) : tR 0 P n c m := by
  obtain ⟨a1, a2, a3, a4, a5, a6, a7, a8⟩ := DT_n h (k := 0) (by decide)
  obtain ⟨b1, b2, b3, b4, b5, b6, b7, b8⟩ := DT_n h (k := 1) (by decide)
  obtain ⟨s1, s2, s3, s4⟩ := h.2.2.2.2.1.1 0 (by decide)
  have hh : c 40 6 = m 49 41 := h.1.1
  have hw : Machine_wayFrom ((0 : Nat) : Int) c = if m 67 0 = -1 then some (-1, c) else if m 72 0 = 0 then (if w32 (m 49 41) < 80 then some (-1, c) else if m 67 1 = -1 then some (1, c) else some (-1, c)) else some (-1, c) := by
    show Machine_wayFrom 0 c = _
    unfold Machine_wayFrom Machine_ifFree
    simp (decide := true) only [w_0, w_1, Int.reduceToNat, if_true, if_false, g_bi_s, a1, a3, b1, hh]
    by_cases e1 : m 67 0 = -1 <;> by_cases e2 : m 72 0 = 0 <;> by_cases e3 : m 67 1 = -1 <;> simp [e1, e2, e3, g_bi_s]
  have hg : M_goes ((0 : Nat) : Int) m = if m 67 0 = -1 then some (0, m) else if m 72 0 = 0 then (if m 67 1 = -1 then (if w32 (m 49 41) < 80 then some (0, m) else some (1, m)) else some (0, m)) else some (0, m) := by
    show M_goes 0 m = _
    unfold M_goes
    simp (decide := true) only [w_0, w_1, Int.reduceToNat, if_true, if_false, g_bi_s, a2, a4, b2]
  by_cases e1 : m 67 0 = -1
  · rw [if_pos e1] at hw hg
    exact t_none h (by decide) hP hw hg
  rw [if_neg e1] at hw hg
  by_cases e2 : m 72 0 = 0
  · rw [if_pos e2] at hw hg
    by_cases e3 : m 67 1 = -1
    · by_cases e5 : w32 (m 49 41) < 80
      · rw [if_pos e5] at hw
        rw [if_pos e3, if_pos e5] at hg
        exact t_none h (by decide) hP hw hg
      rw [if_neg e5, if_pos e3] at hw
      rw [if_pos e3, if_neg e5] at hg
      rcases (h.2.1 0 (by decide)).2.2.2 with e4 | e4
      · have hM : M_turn ((0 : Nat) : Int) m = some (0, g_up (g_up (g_up (g_up (g_up (g_up (g_up m 67 1 (m 67 0)) 68 1 (m 68 0)) 69 1 0) 72 1 1) 67 0 (-1)) 68 0 0) 69 0 0) := by
          show M_turn 0 m = _
          unfold M_turn
          rw [show M_goes 0 m = some (1, m) from hg]
          have hsh : M_shift 0 1 m = _ := sh_to (m := m) (k := 0) (t := 1) (by decide) (by decide)
          unfold M_turn_76 M_turn_139 M_turn_153
          simp (decide := true) only [g_bi_s, g_le_s, w_0, w_1, w_2, Int.reduceToNat, Int.reduceAdd, if_true, if_false, e4, hsh]
        exact t_shift (b := m) h (by decide) (by decide) (by decide) e2 e1 e4 e3 hw (fun _ _ => rfl) rfl (fun _ _ => rfl) (fM_rf _ _) (s4 e1).1 (fun _ => (s4 e1).2 (by decide)) hM
      · exact t_stick h (by decide) hP e2 e1 e4 hw (by decide) hg
    · rw [if_neg e3] at hg
      by_cases e5 : w32 (m 49 41) < 80
      · rw [if_pos e5] at hw
        exact t_none h (by decide) hP hw hg
      · rw [if_neg e5, if_neg e3] at hw
        exact t_none h (by decide) hP hw hg
  · rw [if_neg e2] at hw hg
    exact t_none h (by decide) hP hw hg
end TS

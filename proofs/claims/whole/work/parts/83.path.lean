/-! the path -/
def JP (s : Nat) (c m : gS) : Prop := s ≤ 200 ∧ c 28 5 = s ∧ m 49 22 = s ∧ (∀ i, i < s → c 29 i = m 59 i ∧ c 30 i = m 60 i ∧ c 31 i = m 61 i ∧ (m 61 i = 0 ∨ m 61 i = 1) ∧ (-100000 ≤ m 59 i ∧ m 59 i ≤ 100000) ∧ -100000 ≤ m 60 i ∧ m 60 i ≤ 100000) ∧ c 28 7 = m 49 28 ∧ (m 49 28 = 0 ∨ (m 49 28 = 1 ∧ 0 < s)) ∧ m 49 27 = (if s = 0 then 0 else 1) ∧ (0 < s → ∃ u : Nat, c 28 6 = u ∧ u < s ∧ m 49 25 = m 59 u ∧ m 49 26 = m 60 u ∧ (m 49 28 = 0 → m 49 23 = m 59 (s - 1) ∧ m 49 24 = m 60 (s - 1)) ∧ (m 49 28 = 1 → m 49 23 = m 59 u ∧ m 49 24 = m 60 u))
def aC (q : Nat) : Bool := decide (28 ≤ q) && decide (q ≤ 33)
def aM (q k : Nat) : Bool := (decide (q = 49) && (decide (22 ≤ k) && decide (k ≤ 28))) || (decide (59 ≤ q) && decide (q ≤ 61))
section PA
variable {s : Nat} {c m c' m' : gS}
theorem JP_congr (h1 : c' 28 = c 28) (h2 : c' 29 = c 29) (h3 : c' 30 = c 30) (h4 : c' 31 = c 31) (h5 : ∀ k, 22 ≤ k → k ≤ 28 → m' 49 k = m 49 k) (h6 : m' 59 = m 59) (h7 : m' 60 = m 60) (h8 : m' 61 = m 61) (h : JP s c m) : JP s c' m' := by
  unfold JP
  rw [h1, h2, h3, h4, h6, h7, h8, h5 22 (by omega) (by omega), h5 23 (by omega) (by omega), h5 24 (by omega) (by omega), h5 25 (by omega) (by omega), h5 26 (by omega) (by omega), h5 27 (by omega) (by omega), h5 28 (by omega) (by omega)]
  exact h
theorem place1 (h : JP s c m) (hs : s < 200) {x y : Int} (x1 : -100000 ≤ x) (x2 : x ≤ 100000) (y1 : -100000 ≤ y) (y2 : y ≤ 100000) : ∃ c' m', Path_begin x y c = some (0, c') ∧ M_place x y 1 m = some (0, m') ∧ JP (s + 1) c' m' ∧ m' 49 28 = 0 ∧ m' 49 23 = x ∧ m' 49 24 = y ∧ c' 29 s = x ∧ c' 30 s = y ∧ c' 32 = c 32 ∧ c' 33 = c 33 ∧ fC aC c c' ∧ fM aM m m' := by
  obtain ⟨h1, h2, h3, h4, h5, h6, h7, h8⟩ := id h
  have ws : w32 (s : Int) = s := w_nat (by omega)
  have i1 : (0 : Int) ≤ (s : Int) ∧ (s : Int) < 200 := by omega
  refine ⟨g_up (g_up (g_up (g_up (g_up (g_up c 28 6 s) 28 7 0) 29 s x) 30 s y) 31 s 1) 28 5 ((s : Int) + 1), g_up (g_up (g_up (g_up (g_up (g_up (g_up (g_up (g_up (g_up m 59 s x) 60 s y) 61 s 1) 49 22 ((s : Int) + 1)) 49 23 x) 49 24 y) 49 27 1) 49 25 x) 49 26 y) 49 28 0, ?_, ?_, ?_, up_y, ?_, ?_, ?_, ?_, ?_, ?_, ?_, ?_⟩
  · unfold Path_begin Path_add
    rw [g_le_s, g_le_s, up_n (by decide), up_n (by decide), h2, ws, if_neg (by omega), if_pos i1, g_le_s]
    simp (disch := decide) only [g_up_ne, up_n, h2, ws, if_pos i1, g_le_s, g_bi_s, Int.toNat_natCast, show i_nar .boolean 1 = 1 by decide]
  · unfold M_place
    rw [h3, ws, if_pos i1, g_le_s]
    simp (disch := decide) only [g_up_ne, h3, ws, if_pos i1, g_le_s, g_bi_s, Int.toNat_natCast, show i_nar .boolean 1 = 1 by decide, show ¬ w32 1 = 0 by decide, if_false]
  · refine ⟨by omega, by rw [up_y]; rfl, ?_, fun i hi => ?_, ?_, Or.inl up_y, ?_, fun _ => ⟨s, ?_⟩⟩
    · simp (disch := decide) only [g_up_ne, up_n, up_y]; rfl
    · by_cases e : i = s
      · subst e
        simp (disch := decide) only [g_up_ne, up_n, up_y]
        exact ⟨trivial, trivial, trivial, Or.inr trivial, ⟨x1, x2⟩, y1, y2⟩
      · have := h4 i (by omega)
        simp (disch := first | decide | omega) only [g_up_ne, up_n, up_y]
        exact this
    · simp (disch := decide) only [g_up_ne, up_n, up_y]
    · rw [if_neg (by omega)]
      simp (disch := decide) only [g_up_ne, up_n, up_y]
    · simp (disch := decide) only [g_up_ne, up_n, up_y, show s + 1 - 1 = s by omega]
      exact ⟨trivial, by omega, trivial, trivial, fun _ => ⟨trivial, trivial⟩, fun x => (by cases x)⟩
  · simp (disch := decide) only [g_up_ne, up_n, up_y]
  · simp (disch := decide) only [g_up_ne, up_n, up_y]
  · simp (disch := decide) only [g_up_ne, up_n, up_y]
  · simp (disch := decide) only [g_up_ne, up_n, up_y]
  · simp (disch := decide) only [g_up_ne]
  · simp (disch := decide) only [g_up_ne]
  · exact (by (iterate 6 refine fC_tr ?_ (fC_up rfl)); exact fC_rf _ _)
  · exact (by (iterate 10 refine fM_tr ?_ (fM_up rfl)); exact fM_rf _ _)
theorem place0 (h : JP s c m) (hs : s < 200) (hs0 : 0 < s) (hc : m 49 28 = 0) {x y : Int} (x1 : -100000 ≤ x) (x2 : x ≤ 100000) (y1 : -100000 ≤ y) (y2 : y ≤ 100000) : ∃ c' m', Path_add x y 0 c = some (0, c') ∧ M_place x y 0 m = some (0, m') ∧ JP (s + 1) c' m' ∧ m' 49 28 = 0 ∧ c' 32 = c 32 ∧ c' 33 = c 33 ∧ fC aC c c' ∧ fM aM m m' := by
  obtain ⟨h1, h2, h3, h4, h5, h6, h7, h8⟩ := id h
  have ws : w32 (s : Int) = s := w_nat (by omega)
  have i1 : (0 : Int) ≤ (s : Int) ∧ (s : Int) < 200 := by omega
  refine ⟨g_up (g_up (g_up (g_up c 29 s x) 30 s y) 31 s 0) 28 5 ((s : Int) + 1), g_up (g_up (g_up (g_up (g_up (g_up (g_up m 59 s x) 60 s y) 61 s 0) 49 22 ((s : Int) + 1)) 49 23 x) 49 24 y) 49 27 1, ?_, ?_, ?_, ?_, ?_, ?_, ?_, ?_⟩
  · unfold Path_add
    rw [h2, ws, if_neg (by omega), if_pos i1, g_le_s]
    simp (disch := decide) only [g_up_ne, up_n, h2, ws, if_pos i1, g_le_s, g_bi_s, Int.toNat_natCast, show i_nar .boolean 0 = 0 by decide]
  · unfold M_place
    rw [h3, ws, if_pos i1, g_le_s]
    simp (disch := decide) only [g_up_ne, h3, ws, if_pos i1, g_le_s, g_bi_s, Int.toNat_natCast, show i_nar .boolean 0 = 0 by decide, show w32 0 = 0 by decide, if_true]
  · obtain ⟨u, u1, u2, u3, u4, u5, u6⟩ := h8 hs0
    refine ⟨by omega, by rw [up_y]; rfl, ?_, fun i hi => ?_, ?_, Or.inl ?_, ?_, fun _ => ⟨u, ?_⟩⟩
    · simp (disch := decide) only [g_up_ne, up_n, up_y]; rfl
    · by_cases e : i = s
      · subst e
        simp (disch := decide) only [g_up_ne, up_n, up_y]
        exact ⟨trivial, trivial, trivial, Or.inl trivial, ⟨x1, x2⟩, y1, y2⟩
      · have := h4 i (by omega)
        simp (disch := first | decide | omega) only [g_up_ne, up_n, up_y]
        exact this
    · simp (disch := decide) only [g_up_ne, up_n, up_y]
      exact h5
    · simp (disch := decide) only [g_up_ne, up_n, up_y]
      exact hc
    · rw [if_neg (by omega), up_y]
    · simp (disch := first | decide | omega) only [g_up_ne, up_n, up_y, show s + 1 - 1 = s by omega]
      exact ⟨u1, by omega, u3, u4, fun _ => ⟨trivial, trivial⟩, fun x => by omega⟩
  · simp (disch := decide) only [g_up_ne, up_n, up_y]
    exact hc
  · simp (disch := decide) only [g_up_ne]
  · simp (disch := decide) only [g_up_ne]
  · exact (by (iterate 4 refine fC_tr ?_ (fC_up rfl)); exact fC_rf _ _)
  · exact (by (iterate 7 refine fM_tr ?_ (fM_up rfl)); exact fM_rf _ _)
/-- behind a Z the next subpath begins -/
theorem goOn_both (h : JP s c m) (hs0 : 0 < s) (hs : m 49 28 = 1 → s < 200) : ∃ (t : Nat) (c' m' : gS), Path_goOn c = some (0, c') ∧ (if w32 (m 49 28) = 0 then some ((0 : Int), m) else M_place (m 49 23) (m 49 24) 1 m) = some (0, m') ∧ JP t c' m' ∧ 0 < t ∧ (t : Int) = s + m 49 28 ∧ m' 49 28 = 0 ∧ m' 49 23 = c' 29 (t - 1) ∧ m' 49 24 = c' 30 (t - 1) ∧ c' 32 = c 32 ∧ c' 33 = c 33 ∧ fC aC c c' ∧ fM aM m m' := by
  obtain ⟨h1, h2, h3, h4, h5, h6, h7, h8⟩ := id h
  obtain ⟨u, u1, u2, u3, u4, u5, u6⟩ := h8 hs0
  rcases h6 with hz | ⟨ho, -⟩
  · obtain ⟨a, b⟩ := u5 hz
    have q := h4 (s - 1) (by omega)
    refine ⟨s, c, m, ?_, ?_, h, hs0, by omega, hz, by rw [a, q.1], by rw [b, q.2.1], rfl, rfl, fC_rf _ _, fM_rf _ _⟩
    · unfold Path_goOn
      rw [h5, hz, if_pos (by decide)]
    · rw [hz, if_pos (by decide)]
  · obtain ⟨a, b⟩ := u6 ho
    have q := h4 u u2
    have us : u < 200 := by clear h4 h5 h7 h8 u1 u3 u4 u5 u6 a b q; omega
    have bu : (0 : Int) ≤ (u : Int) ∧ (u : Int) < 200 := by clear h4 h5 h7 h8 u1 u3 u4 u5 u6 a b q; omega
    have wu : w32 (u : Int) = u := w_nat (by omega)
    obtain ⟨c', m', k1, k2, k3, k4, k5, k6, k7, k8, k9, k10, k11, k12⟩ := place1 h (hs ho) (x := m 59 u) (y := m 60 u) q.2.2.2.2.1.1 q.2.2.2.2.1.2 q.2.2.2.2.2.1 q.2.2.2.2.2.2
    refine ⟨s + 1, c', m', ?_, ?_, k3, by omega, by omega, k4, ?_, ?_, k9, k10, k11, k12⟩
    · unfold Path_goOn
      rw [h5, ho, if_neg (show ¬ w32 1 = 0 by decide), u1, wu, if_pos bu, if_pos bu, Int.toNat_natCast, q.1, q.2.1, k1]
      rfl
    · rw [ho, if_neg (by decide), a, b]
      exact k2
    · rw [k5, show s + 1 - 1 = s by omega, k7]
    · rw [k6, show s + 1 - 1 = s by omega, k8]
theorem close_both (h : JP s c m) (hs0 : 0 < s) : ∃ c' m', Path_close c = some (0, c') ∧ M_order 90 m = some (0, m') ∧ JP s c' m' ∧ fC aC c c' ∧ fM aM m m' := by
  obtain ⟨h1, h2, h3, h4, h5, h6, h7, h8⟩ := id h
  obtain ⟨u, u1, u2, u3, u4, u5, u6⟩ := h8 hs0
  have eM : M_order 90 m = if w32 (m 49 28) = 0 then some (0, g_up (g_up (g_up m 49 28 1) 49 23 (m 49 25)) 49 24 (m 49 26)) else some (0, m) := by
    unfold M_order
    simp (decide := true) only [if_false, if_true]
    simp (disch := decide) only [g_le_s, up_n]
  rw [eM]
  rcases h6 with hz | ⟨ho, -⟩
  · rw [hz, if_pos (by decide)]
    refine ⟨g_up c 28 7 1, _, rfl, rfl, ⟨h1, ?_, ?_, fun i hi => ?_, ?_, Or.inr ⟨?_, hs0⟩, ?_, fun _ => ⟨u, ?_⟩⟩, fC_up rfl, (by (iterate 3 refine fM_tr ?_ (fM_up rfl)); exact fM_rf _ _)⟩
    · simp (disch := decide) only [g_up_ne, up_n, up_y]; exact h2
    · simp (disch := decide) only [g_up_ne, up_n, up_y]; exact h3
    · have := h4 i hi
      simp (disch := decide) only [g_up_ne, up_n, up_y]
      exact this
    · simp (disch := decide) only [g_up_ne, up_n, up_y]
    · simp (disch := decide) only [g_up_ne, up_n, up_y]
    · simp (disch := decide) only [g_up_ne, up_n, up_y]; exact h7
    · simp (disch := decide) only [g_up_ne, up_n, up_y]
      exact ⟨u1, u2, u3, u4, fun x => (by cases x), fun _ => ⟨u3, u4⟩⟩
  · rw [ho, if_neg (by decide)]
    refine ⟨g_up c 28 7 1, m, rfl, rfl, ?_, fC_up rfl, fM_rf _ _⟩
    rw [up_id (by rw [h5, ho])]
    exact h
theorem clear_both (h : JP s c m) : ∃ c' m', Path_clear c = some (0, c') ∧ M_noPath m = some (0, m') ∧ JP 0 c' m' ∧ fC aC c c' ∧ fM aM m m' := by
  refine ⟨g_up (g_up (g_up c 28 5 0) 28 6 0) 28 7 0, g_up (g_up (g_up m 49 22 0) 49 27 0) 49 28 0, rfl, rfl, ⟨by omega, ?_, ?_, fun i hi => by omega, ?_, Or.inl up_y, ?_, fun x => by omega⟩, (by (iterate 3 refine fC_tr ?_ (fC_up rfl)); exact fC_rf _ _), (by (iterate 3 refine fM_tr ?_ (fM_up rfl)); exact fM_rf _ _)⟩
  · simp (disch := decide) only [g_up_ne, up_n, up_y]; rfl
  · simp (disch := decide) only [g_up_ne, up_n, up_y]; rfl
  · simp (disch := decide) only [g_up_ne, up_n, up_y]
  · simp (disch := decide) only [g_up_ne, up_n, up_y, if_true]
end PA

/-! the sheet goes out; section 2 -/
section TO
variable {P : Nat → Bool} {n : Int} {c m : gS}
theorem out_room (h : DT P n c m) (hin : m 67 2 ≠ -1) : 0 ≤ m 67 2 ∧ m 67 2 < m 49 44 ∧ m 73 (m 67 2).toNat = 0 ∧ m 49 45 < m 49 44 ∧ m 49 44 ≤ 32 ∧ 0 ≤ m 49 45 := by
  obtain ⟨hE, hS, hG, hO, hI, hQ, ho, hj, hd⟩ := h
  obtain ⟨o1, o2, o3, o4, o5, o6⟩ := hO
  obtain ⟨s1, s2, s3, s4⟩ := hI.1 2 (by decide)
  obtain ⟨p1, p2, p3⟩ := s1.resolve_left hin
  have h1 := cnt_set (f := m 73) (g := fun i => if i = (m 67 2).toNat then 1 else m 73 i) (n := (m 49 44).toNat) (j := (m 67 2).toNat) (by omega) p3 (by simp) (fun k hk => by simp [hk])
  have h2 := cnt_hi (fun i => if i = (m 67 2).toNat then 1 else m 73 i) (m 49 44).toNat
  exact ⟨p1, p2, p3, by omega, o3, o1⟩
theorem dt_out {c' m' : gS} (h : DT P n c m) (hin : m 67 2 ≠ -1) (hmv : m 72 2 = 0)
    (C37 : ∀ j, c' 37 j = if j = 2 then m 49 45 + 1 else c 37 j) (C38 : ∀ i, c' 38 i = if i = (m 49 45).toNat then m 67 2 else c 38 i) (C39 : ∀ i, c' 39 i = if i = (m 67 2).toNat then 1 else c 39 i) (C40 : c' 40 = c 40) (C43 : c' 43 = c 43) (C1 : ∀ i, c' 41 i = if i = 2 then -1 else c 41 i) (C2 : ∀ i, c' 42 i = if i = 2 then 0 else c 42 i) (C4 : c' 44 = c 44) (C5 : ∀ i, c' 45 i = if i = 2 then 0 else c 45 i)
    (M49 : ∀ j, m' 49 j = if j = 45 then m 49 45 + 1 else m 49 j) (M70 : ∀ i, m' 70 i = if i = (m 49 45).toNat then m 67 2 else m 70 i) (M73 : ∀ i, m' 73 i = if i = (m 67 2).toNat then 1 else m 73 i) (M71 : m' 71 = m 71) (M72 : m' 72 = m 72) (M7 : ∀ i, m' 67 i = if i = 2 then -1 else m 67 i) (M8 : ∀ i, m' 68 i = if i = 2 then 0 else m 68 i) (M9 : ∀ i, m' 69 i = if i = 2 then 0 else m 69 i) : DT (pW 2 P) n c' m' := by
  obtain ⟨r1, r2, r3, r4, r5, r6⟩ := out_room h hin
  obtain ⟨hE, hS, hG, hO, hI, hQ, ho, hj, hd⟩ := h
  obtain ⟨o1, o2, o3, o4, o5, o6⟩ := hO
  have k5 : m' 49 5 = m 49 5 := M49 5
  have k8 : m' 49 8 = m 49 8 := M49 8
  have k11 : m' 49 11 = m 49 11 := M49 11
  have k12 : m' 49 12 = m 49 12 := M49 12
  have k40 : m' 49 40 = m 49 40 := M49 40
  have k41 : m' 49 41 = m 49 41 := M49 41
  have k42 : m' 49 42 = m 49 42 := M49 42
  have k43 : m' 49 43 = m 49 43 := M49 43
  have k44 : m' 49 44 = m 49 44 := M49 44
  have k45 : m' 49 45 = m 49 45 + 1 := M49 45
  have k46 : m' 49 46 = m 49 46 := M49 46
  have k47 : m' 49 47 = m 49 47 := M49 47
  have j2 : c' 37 2 = m 49 45 + 1 := C37 2
  have j3 : c' 37 3 = c 37 3 := C37 3
  have j4 : c' 37 4 = c 37 4 := C37 4
  have j5 : c' 37 5 = c 37 5 := C37 5
  have j6 : c' 37 6 = c 37 6 := C37 6
  have j7 : c' 37 7 = c 37 7 := C37 7
  have hsd : sdsM m' = sdsM m := by unfold sdsM; rw [k12]
  refine ⟨?_, fun i hi => ?_, ?_, ⟨?_, ?_, ?_, ?_, ?_, ?_⟩, ⟨fun i hi => ?_, fun i j hi hj2 hij hne => ?_⟩, ?_, ?_, ?_, fun i hi => ?_⟩
  · unfold pE at *
    rw [C40, j2, j3, j5, k41, k40, k46, k42, k43, k47, k45, k44, k12]
    exact ⟨hE.1, hE.2.1, hE.2.2.1, hE.2.2.2.1, hE.2.2.2.2.1, hE.2.2.2.2.2.1, rfl, hE.2.2.2.2.2.2.2⟩
  · obtain ⟨s1, s2, s3, s4⟩ := hS i hi
    rw [C1, C2, C43, M7, M8, M71]
    by_cases e1 : i = 2
    · simp only [e1, if_true]
      subst e1
      exact ⟨trivial, trivial, s3, s4⟩
    · simp only [e1, if_false]
      exact ⟨s1, s2, s3, s4⟩
  · unfold pG at *
    rw [k41, k40, k46, k47, k12]
    exact hG
  · rw [k45]; omega
  · rw [k45, k44]; omega
  · rw [k44]; omega
  · rw [k45, k44, cnt_set (f := m 73) (g := m' 73) (n := (m 49 44).toNat) (j := (m 67 2).toNat) (by omega) r3 (by rw [M73, if_pos rfl]; omega) (fun k hk => by rw [M73, if_neg hk]), ← o4]
  · rw [k44]
    refine ⟨?_, fun q => by omega⟩
    intro q i hi
    obtain ⟨t1, t2⟩ := o5.1 q i hi
    rw [C39, M73]
    by_cases e : i = (m 67 2).toNat
    · simp only [e, if_true]
      exact ⟨trivial, Or.inr trivial⟩
    · simp only [e, if_false]
      exact ⟨t1, t2⟩
  · rw [k45, k44]
    intro i hi
    rw [C38, M70]
    by_cases e : i = (m 49 45).toNat
    · simp only [e, if_true]
      exact ⟨trivial, r1, r2⟩
    · simp only [e, if_false]
      exact o6 i (by omega)
  · obtain ⟨s1, s2, s3, s4⟩ := hI.1 i hi
    rw [M7, M8, k44, hsd]
    by_cases e1 : i = 2
    · simp only [e1, if_true]
      exact ⟨Or.inl trivial, by omega, by omega, fun q => absurd rfl q⟩
    · simp only [e1, if_false]
      refine ⟨?_, s2, s3, s4⟩
      rcases s1 with s1 | ⟨p1, p2, p3⟩
      · exact Or.inl s1
      · refine Or.inr ⟨p1, p2, ?_⟩
        have hne : m 67 2 ≠ m 67 i := hI.2 2 i (by decide) hi (fun q => e1 q.symm) hin
        rw [M73, if_neg (by omega)]
        exact p3
  · rw [M7] at hne
    rw [M7, M7]
    by_cases e1 : i = 2
    · simp only [e1, if_true] at hne
      exact absurd rfl hne
    · simp only [e1, if_false] at hne ⊢
      by_cases e3 : j = 2
      · simp only [e3, if_true]
        exact hne
      · simp only [e3, if_false]
        exact hI.2 i j hi hj2 hij hne
  · unfold pQ at *
    rw [k5, k44, k11, k8, k12, j4, j6, j7]
    exact hQ
  · rw [k46]; exact ho
  · rw [k47]; exact hj
  · obtain ⟨d1, d2, d3, d4, d5, d6, d7, d8, d9⟩ := hd i hi
    unfold dS
    rw [C4, C5, M9, M72, M7]
    by_cases e1 : i = 2
    · subst e1
      rw [pW_y]
      simp only [if_true]
      refine ⟨d1, d2, fun q => ?_, by omega, by omega, by omega, by omega, fun _ => ⟨trivial, fun _ => trivial⟩, fun q => by cases q⟩
      rw [hmv] at q; omega
    · rw [pW_n e1]
      simp only [e1, if_false]
      exact ⟨d1, d2, d3, d4, d5, d6, d7, d8, d9⟩
theorem mv_out {s u : Int} (e1 : c 41 2 = s) (h1 : 0 ≤ s) (h2 : s < c 37 3) (h3 : c 37 3 ≤ 32) (e2 : c 39 s.toNat = 0) (e3 : c 37 2 = u) (h4 : 0 ≤ u) (h5 : u < 32) : Machine_move 2 4 c = some (0, g_up (g_up (g_up (g_up (g_up c 39 s.toNat 1) 38 u.toNat s) 37 2 (u + 1)) 41 2 (-1)) 42 2 0) := by
  have ws : w32 s = s := w32_id (by omega) (by omega)
  have wu : w32 u = u := w32_id (by omega) (by omega)
  have wc : w32 (c 37 3) = c 37 3 := w32_id (by omega) (by omega)
  unfold Machine_move Machine_move_22 Machine_move_56 Machine_empty Order_putOut Order_isLeft
  simp (decide := true) only [w_2, w_4, if_true, if_false, Int.reduceToNat, e1, ws, wc, e2]
  rw [if_neg (by omega), if_neg (by omega), if_pos (by omega)]
  simp (decide := true) (disch := decide) only [w_0, w_1, g_bi_s, g_le_s, if_true, if_false, g_up_ne, up_n, e3, wu]
  rw [if_neg (by omega), if_pos (show 0 ≤ s ∧ s < 32 by omega), if_pos (show 0 ≤ u ∧ u < 32 by omega), i_nar_01 (Or.inr rfl), g_bi_s]
theorem tn_2 (h : DT P n c m) (hP : P 2 = false) : tR 2 P n c m := by
  obtain ⟨a1, a2, a3, a4, a5, a6, a7, a8⟩ := DT_n h (k := 2) (by decide)
  obtain ⟨b1, b2, b3, b4, b5, b6, b7, b8⟩ := DT_n h (k := 3) (by decide)
  obtain ⟨s1, s2, s3, s4⟩ := h.2.2.2.2.1.1 2 (by decide)
  have hg12 := h.2.2.1.2.2.2.2.2.2.2
  have w12 : w32 (m 49 12) = m 49 12 := w32_01 hg12
  have h5 : c 37 5 = m 49 12 := h.1.2.2.2.2.2.2.2.2
  have hw : Machine_wayFrom ((2 : Nat) : Int) c = if m 67 2 = -1 then some (-1, c) else if m 72 2 = 0 then (if m 68 2 < sdsM m then (if m 67 3 = -1 then some (3, c) else some (-1, c)) else some (4, c)) else some (-1, c) := by
    show Machine_wayFrom 2 c = _
    unfold Machine_wayFrom Machine_ifFree Order_sides sdsM
    simp (decide := true) only [w_2, w_3, Int.reduceToNat, if_true, if_false, g_bi_s, a1, a3, b1, a5, h5, w12]
    by_cases e1 : m 67 2 = -1 <;> by_cases e2 : m 72 2 = 0 <;> by_cases e3 : m 67 3 = -1 <;> by_cases e4 : m 49 12 = 0 <;> simp [e1, e2, e3, e4, g_bi_s, w_1, w_2, b1, a5, show w32 (-1) = -1 by decide]
  have hg : M_goes ((2 : Nat) : Int) m = if m 67 2 = -1 then some (0, m) else if m 72 2 = 0 then (if m 68 2 = sdsM m then some (1, m) else if m 67 3 = -1 then some (1, m) else some (0, m)) else some (0, m) := by
    show M_goes 2 m = _
    unfold M_goes M_sidesOf sdsM
    simp (decide := true) only [w_2, w_3, Int.reduceToNat, if_true, if_false, g_bi_s, a2, a4, b2, a6, w12]
    by_cases e1 : m 67 2 = -1 <;> by_cases e2 : m 72 2 = 0 <;> by_cases e3 : m 67 3 = -1 <;> by_cases e4 : m 49 12 = 0 <;> simp [e1, e2, e3, e4, g_bi_s, w_1, w_2, b2, a6, show w32 (-1) = -1 by decide]
  by_cases e1 : m 67 2 = -1
  · rw [if_pos e1] at hw hg
    exact t_none h (by decide) hP hw hg
  rw [if_neg e1] at hw hg
  by_cases e2 : m 72 2 = 0
  · rw [if_pos e2] at hw hg
    have hle := (s4 e1).1
    by_cases e3 : m 68 2 = sdsM m
    · rw [if_neg (by omega)] at hw
      rw [if_pos e3] at hg
      rcases (h.2.1 2 (by decide)).2.2.2 with e4 | e4
      · obtain ⟨r1, r2, r3, r4, r5, r6⟩ := out_room h e1
        have hE := h.1
        have hc43 : c 43 2 = 0 := ((h.2.1 2 (by decide)).2.2.1).trans e4
        have hC := mf_move (by decide) hw (by decide) hc43
        have hmv := mv_out (c := g_up c 45 2 0) (s := m 67 2) (u := m 49 45) (by rw [g_up_ne (by decide)]; exact (h.2.1 2 (by decide)).1) r1 (by rw [g_up_ne (by decide), hE.2.2.2.2.2.2.2.1]; exact r2) (by rw [g_up_ne (by decide), hE.2.2.2.2.2.2.2.1]; exact r5) (by rw [g_up_ne (by decide), (h.2.2.2.1.2.2.2.2.1.1 (by omega) _ (by omega)).1]; exact r3) (by rw [g_up_ne (by decide)]; exact hE.2.2.2.2.2.2.1) r6 (by omega)
        rw [show ((2 : Nat) : Int) = 2 from rfl, hmv, g_bi_s] at hC
        have wsd : w32 (sdsM m) = sdsM m := by unfold sdsM; split <;> decide
        have hsi : M_sidesOf m = some (sdsM m, m) := by
          unfold M_sidesOf sdsM
          rw [w12]
          split <;> rfl
        have wo : w32 (m 49 45) = m 49 45 := w32_id (by omega) (by omega)
        have hM : M_turn ((2 : Nat) : Int) m = some (0, g_up (g_up (g_up (g_up (g_up (g_up m 70 (m 49 45).toNat (m 67 2)) 73 (m 67 2).toNat 1) 49 45 (m 49 45 + 1)) 67 2 (-1)) 68 2 0) 69 2 0) := by
          show M_turn 2 m = _
          unfold M_turn
          rw [show M_goes 2 m = some (1, m) from hg]
          unfold M_turn_76 M_empty
          simp (decide := true) (disch := decide) only [g_bi_s, g_le_s, w_0, w_1, w_2, Int.reduceToNat, Int.reduceAdd, if_true, if_false, e4, hsi, a6, wsd, e3, g_up_ne, up_n, wo, a2]
          rw [if_pos (show 0 ≤ m 49 45 ∧ m 49 45 < 40 by omega), if_pos (show 0 ≤ m 67 2 ∧ m 67 2 < 40 by omega), i_nar_01 (Or.inr rfl)]
        refine ⟨0, _, _, hC, hM, dt_out h e1 e2 (fun j => ?_) (fun i => ?_) (fun i => ?_) ?_ ?_ (fun i => ?_) (fun i => ?_) ?_ (fun i => ?_) (fun j => ?_) (fun i => ?_) (fun i => ?_) ?_ ?_ (fun i => ?_) (fun i => ?_) (fun i => ?_), Or.inl rfl, ?_, fun i hi hik hPi => ?_, ?_, ?_⟩
        · simp [g_up_at]
        · simp [g_up_at]
        · simp [g_up_at]
        · simp (disch := decide) only [g_up_ne]
        · simp (disch := decide) only [g_up_ne]
        · simp [g_up_at]
        · simp [g_up_at]
        · simp (disch := decide) only [g_up_ne]
        · simp [g_up_at]
        · simp [g_up_at]
        · simp [g_up_at]
        · simp [g_up_at]
        · simp (disch := decide) only [g_up_ne]
        · simp (disch := decide) only [g_up_ne]
        · simp [g_up_at]
        · simp [g_up_at]
        · simp [g_up_at]
        · rw [up_y]; omega
        · simp (disch := omega) only [g_up_ne, up_n]
        · exact fC_tr (fC_tr (fC_tr (fC_tr (fC_tr (fC_up rfl) (fC_up rfl)) (fC_up rfl)) (fC_up rfl)) (fC_up rfl)) (fC_up rfl)
        · exact fM_tr (fM_tr (fM_tr (fM_tr (fM_tr (fM_up (by simp [pcT])) (fM_up (by simp [pcT]))) (fM_up (by simp [pcT]))) (fM_up (by simp [pcT]))) (fM_up (by simp [pcT]))) (fM_up (by simp [pcT]))
      · exact t_stick h (by decide) hP e2 e1 e4 hw (by decide) hg
    · rw [if_pos (by omega)] at hw
      rw [if_neg e3] at hg
      by_cases e5 : m 67 3 = -1
      · rw [if_pos e5] at hw hg
        rcases (h.2.1 2 (by decide)).2.2.2 with e4 | e4
        · have hM : M_turn ((2 : Nat) : Int) m = some (0, g_up (g_up (g_up (g_up (g_up (g_up (g_up m 67 3 (m 67 2)) 68 3 (m 68 2)) 69 3 0) 72 3 1) 67 2 (-1)) 68 2 0) 69 2 0) := by
            show M_turn 2 m = _
            unfold M_turn
            rw [show M_goes 2 m = some (1, m) from hg]
            have hsh : M_shift 2 3 m = _ := sh_to (m := m) (k := 2) (t := 3) (by decide) (by decide)
            have hsi : M_sidesOf m = some (sdsM m, m) := by
              unfold M_sidesOf sdsM
              rw [w12]
              split <;> rfl
            have wsd : w32 (sdsM m) = sdsM m := by unfold sdsM; split <;> decide
            unfold M_turn_76 M_turn_139 M_turn_153
            simp (decide := true) only [g_bi_s, g_le_s, w_0, w_1, w_2, Int.reduceToNat, Int.reduceAdd, if_true, if_false, e4, hsh, hsi, a6, wsd, e3]
          exact t_shift (b := m) h (by decide) (by decide) (by decide) e2 e1 e4 e5 hw (fun _ _ => rfl) rfl (fun _ _ => rfl) (fM_rf _ _) hle (fun _ => by show m 68 2 < sdsM m; omega) hM
        · exact t_stick h (by decide) hP e2 e1 e4 hw (by decide) hg
      · rw [if_neg e5] at hw hg
        exact t_none h (by decide) hP hw hg
  · rw [if_neg e2] at hw hg
    exact t_none h (by decide) hP hw hg
end TO

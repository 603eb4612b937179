/-! feeding, jams, one tick -/
def AT (n : Int) (c m : gS) : Prop := pE c m ∧ pS c m ∧ pG n m ∧ pO c m ∧ pI m ∧ pQ c m ∧ m 49 46 = 0 ∧ m 49 47 = 0 ∧ ∀ i, i < 4 → c 45 i = m 69 i ∧ 0 ≤ m 69 i ∧ m 69 i ≤ 4 ∧ (m 67 i = -1 → m 69 i = 0)
theorem DT_AT {P : Nat → Bool} {n : Int} {c m : gS} (h : DT P n c m) (hP : ∀ i, i < 4 → P i = true) : AT n c m := by
  obtain ⟨hE, hS, hG, hO, hI, hQ, ho, hj, hd⟩ := h
  refine ⟨hE, hS, hG, hO, hI, hQ, ho, hj, fun i hi => ?_⟩
  obtain ⟨d1, d2, d3, d4, d5, d6, d7, d8, d9⟩ := hd i hi
  exact ⟨(d8 (hP i hi)).1, d4, d5, (d8 (hP i hi)).2⟩
section FD
variable {n : Int} {c m : gS}
theorem nxt (h : AT n c m) : ∃ z : Int, Machine_nextToMake c = some (z, c) ∧ M_toMake m = some (z, m) ∧ (z = -1 ∨ (0 ≤ z ∧ z < m 49 44 ∧ m 73 z.toNat = 0 ∧ ¬ inn (m 67) z)) := by
  obtain ⟨hE, hS, hG, hO, hI, hQ, ho, hj, hd⟩ := h
  obtain ⟨o1, o2, o3, o4, o5, o6⟩ := hO
  have hw : ∀ i, i < 4 → w32 (m 67 i) = m 67 i := fun i hi => w_in ((hI.1 i hi).1.imp id fun q => ⟨q.1, by omega⟩)
  obtain ⟨z, k1, k2, k3⟩ := next_both (c := c) (m := m) hE.2.2.2.2.2.2.2.1 o3 (by omega) (fun i hi => (hS i hi).1) hw o5.1 (m 49 44).toNat 0 (999999999999 - (m 49 44).toNat) (by omega)
  have hf : 999999999999 - (m 49 44).toNat + (m 49 44).toNat + 1 = gFu := by unfold gFu; omega
  rw [hf] at k1 k2
  refine ⟨z, ?_, k2, k3⟩
  unfold Machine_nextToMake Order_left
  rw [g_bi_s, hE.2.2.2.2.2.2.1, hE.2.2.2.2.2.2.2.1, w32_id (by omega) (by omega)]
  by_cases e : m 49 44 - m 49 45 = 0
  · rw [if_pos e]
    rcases k3 with rfl | ⟨z1, z2, z3, z4⟩
    · rfl
    · have := cnt_all (f := m 73) (n := (m 49 44).toNat) (by omega) z.toNat (by omega)
      exact absurd z3 this
  · rw [if_neg e]
    exact k1
theorem op_feed (h : AT n c m) : ∃ c' m' : gS, Machine_feed c = some (0, c') ∧ M_feed m = some (0, m') ∧ AT n c' m' ∧ (∀ i, i < 4 → m' 69 i = m 69 i) ∧ fC pcC c c' ∧ fM pcT m m' := by
  obtain ⟨z, k1, k2, k3⟩ := nxt h
  obtain ⟨hE, hS, hG, hO, hI, hQ, ho, hj, hd⟩ := id h
  have w0 := w_in ((hI.1 0 (by decide)).1.imp id fun q => ⟨q.1, by have := hO.2.2.1; omega⟩)
  have w3 := w_in ((hI.1 3 (by decide)).1.imp id fun q => ⟨q.1, by have := hO.2.2.1; omega⟩)
  have i0 := (hS 0 (by decide)).1
  have i3 := (hS 3 (by decide)).1
  have hins : ins (c 41) = ins (m 67) := ins_congr fun i hi => (hS i hi).1
  have wt : w32 (m 49 40) = m 49 40 := w32_id (by have := hG.2.2.1; omega) (by have := hG.2.2.2.1; omega)
  have wz : w32 z = z := by
    rcases k3 with rfl | ⟨z1, z2, -⟩
    · decide
    · exact w32_id (by omega) (by have := hO.2.2.1; omega)
  have same : ∃ c' m' : gS, some ((0 : Int), c) = some ((0 : Int), c') ∧ some ((0 : Int), m) = some ((0 : Int), m') ∧ AT n c' m' ∧ (∀ i, i < 4 → m' 69 i = m 69 i) ∧ fC pcC c c' ∧ fM pcT m m' := ⟨c, m, rfl, rfl, h, fun _ _ => rfl, fC_rf _ _, fM_rf _ _⟩
  unfold Machine_feed M_feed
  rw [hE.2.1, i0, i3, k2, g_bi_s, w0, w3, insC, insM, g_bi_s, g_bi_s, k1, g_bi_s, hins, ins_w, wt, wz]
  by_cases e0 : m 67 0 = -1
  · rw [if_pos e0, if_pos e0]
    by_cases e3 : m 67 3 = -1
    · rw [if_pos e3, if_pos e3]
      by_cases e5 : 1 < ins (m 67)
      · rw [if_neg (show ¬ ins (m 67) < 2 by omega), if_pos e5]
        split
        · exact same
        · exact same
      · rw [if_pos (show ins (m 67) < 2 by omega), if_neg e5]
        by_cases e6 : m 49 40 = 0
        · rw [if_pos e6, if_pos e6]
          exact same
        · rw [if_neg e6, if_neg e6]
          by_cases e7 : z = -1
          · rw [if_pos e7, if_pos e7]
            exact same
          · rw [if_neg e7, if_neg e7]
            obtain ⟨z1, z2, z3, z4⟩ := k3.resolve_left e7
            unfold Machine_place
            simp (decide := true) (disch := decide) only [g_le_s, g_bi_s, w_0, Int.reduceToNat, if_true, up_n, g_up_ne, i_nar_01 (Or.inr rfl), hE.2.1]
            refine ⟨_, _, rfl, rfl, ?_, fun i hi => ?_, ?_, ?_⟩
            · have hs1 : 1 ≤ sdsM m := by unfold sdsM; split <;> omega
              have hG3 := hG.2.2.1
              have hG4 := hG.2.2.2.1
              unfold AT pE pS pG pO pI pQ sdsM at *
              simp (disch := decide) only [up_n, up_y, g_up_ne]
              refine ⟨⟨hE.1, trivial, hE.2.2⟩, fun i hi => ?_, ⟨hG.1, hG.2.1, by omega, by omega, hG.2.2.2.2⟩, hO, ⟨fun i hi => ?_, fun i j hi hj2 hij hne => ?_⟩, hQ, ho, hj, fun i hi => ?_⟩
              · obtain ⟨t1, t2, t3, t4⟩ := hS i hi
                by_cases e : i = 0
                · subst e
                  simp (disch := decide) only [up_y, up_n, g_up_ne]
                  exact ⟨trivial, trivial, t3, t4⟩
                · simp (disch := omega) only [up_n, g_up_ne]
                  exact ⟨t1, t2, t3, t4⟩
              · obtain ⟨t1, t2, t3, t4⟩ := hI.1 i hi
                by_cases e : i = 0
                · subst e
                  simp (disch := decide) only [up_y, up_n, g_up_ne]
                  exact ⟨Or.inr ⟨z1, z2, z3⟩, by omega, by omega, fun _ => ⟨by omega, fun _ => by omega⟩⟩
                · simp (disch := omega) only [up_n, g_up_ne]
                  exact ⟨t1, t2, t3, t4⟩
              · by_cases e : i = 0
                · subst e
                  have ej : j ≠ 0 := fun q => hij q.symm
                  simp (disch := omega) only [up_y, up_n, g_up_ne]
                  rcases (show j = 1 ∨ j = 2 ∨ j = 3 by omega) with rfl | rfl | rfl
                  · exact fun q => z4 (Or.inr (Or.inl q.symm))
                  · exact fun q => z4 (Or.inr (Or.inr (Or.inl q.symm)))
                  · exact fun q => z4 (Or.inr (Or.inr (Or.inr q.symm)))
                · simp (disch := omega) only [up_n, g_up_ne] at hne
                  by_cases ej : j = 0
                  · subst ej
                    simp (disch := omega) only [up_y, up_n, g_up_ne]
                    rcases (show i = 1 ∨ i = 2 ∨ i = 3 by omega) with rfl | rfl | rfl
                    · exact fun q => z4 (Or.inr (Or.inl q))
                    · exact fun q => z4 (Or.inr (Or.inr (Or.inl q)))
                    · exact fun q => z4 (Or.inr (Or.inr (Or.inr q)))
                  · simp (disch := omega) only [up_n, g_up_ne]
                    exact hI.2 i j hi hj2 hij hne
              · obtain ⟨t1, t2, t3, t4⟩ := hd i hi
                by_cases e : i = 0
                · subst e
                  simp (disch := decide) only [up_y, up_n, g_up_ne]
                  have q := t4 e0
                  exact ⟨by omega, by omega, by omega, fun _ => trivial⟩
                · simp (disch := omega) only [up_n, g_up_ne]
                  exact ⟨t1, t2, t3, t4⟩
            · by_cases e : i = 0
              · subst e
                rw [up_y]
                exact ((hd 0 hi).2.2.2 e0).symm
              · simp (disch := omega) only [up_n, g_up_ne]
            · exact fC_tr (fC_tr (fC_tr (fC_up rfl) (fC_up rfl)) (fC_up rfl)) (fC_up rfl)
            · exact fM_tr (fM_tr (fM_tr (fM_up (by simp [pcT])) (fM_up (by simp [pcT]))) (fM_up (by simp [pcT]))) (fM_up (by simp [pcT]))
    · rw [if_neg e3, if_neg e3]
      split
      · exact same
      · exact same
  · rw [if_neg e0, if_neg e0]
    split
    · exact same
    · exact same
end FD

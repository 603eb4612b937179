/-! one tick: the relation while the sections are gone through (P: those that have had their turn) -/
def pcT (q k : Nat) : Bool := (decide (q = 49) && (decide (40 ≤ k) && decide (k ≤ 47))) || (decide (67 ≤ q) && decide (q ≤ 73))
theorem pcT_M {m m' : gS} (h : fM pcT m m') : fM pcM m m' := fun q k hq => h q k (by
  revert hq
  unfold pcM pcT
  cases decide (q = 49) <;> cases decide (k = 0) <;> cases (decide (40 ≤ k) && decide (k ≤ 47)) <;> cases (decide (67 ≤ q) && decide (q ≤ 73)) <;> decide)
def dS (P : Nat → Bool) (c m : gS) (i : Nat) : Prop := c 44 i = m 72 i ∧ (m 72 i = 0 ∨ m 72 i = 1) ∧ (m 72 i = 1 → m 69 i = 0 ∧ m 67 i ≠ -1) ∧ 0 ≤ m 69 i ∧ m 69 i ≤ 4 ∧ 0 ≤ c 45 i ∧ c 45 i ≤ 4 ∧ (P i = true → c 45 i = m 69 i ∧ (m 67 i = -1 → m 69 i = 0)) ∧ (P i = false → m 69 i ≤ 3 ∧ (c 45 i = m 69 i ∨ m 67 i = -1 ∨ m 72 i = 1))
def DT (P : Nat → Bool) (n : Int) (c m : gS) : Prop := pE c m ∧ pS c m ∧ pG n m ∧ pO c m ∧ pI m ∧ pQ c m ∧ m 49 46 = 0 ∧ m 49 47 = 0 ∧ ∀ i, i < 4 → dS P c m i
/-- what stays: numbers, sticks, sheets that are out -/
def dC (c c' : gS) : Prop := c' 37 = c 37 ∧ c' 38 = c 38 ∧ c' 39 = c 39 ∧ c' 40 = c 40 ∧ c' 43 = c 43
def dM (m m' : gS) : Prop := m' 49 = m 49 ∧ m' 70 = m 70 ∧ m' 71 = m 71 ∧ m' 73 = m 73
def pW (k : Nat) (P : Nat → Bool) : Nat → Bool := fun i => decide (i = k) || P i
theorem pW_y (k : Nat) (P : Nat → Bool) : pW k P k = true := by simp [pW]
theorem pW_n {k i : Nat} {P : Nat → Bool} (h : i ≠ k) : pW k P i = P i := by simp [pW, h]
theorem dt_shift {P : Nat → Bool} {n : Int} {c m c' m' : gS} {k t : Nat} {pr : Int} (h : DT P n c m) (hk : k < 4) (ht : t < 4) (hkt : k ≠ t) (hin : m 67 k ≠ -1) (hmv : m 72 k = 0) (hfree : m 67 t = -1) (hp0 : 0 ≤ pr) (hp1 : pr ≤ sdsM m) (hp2 : t ≠ 2 → pr < sdsM m)
    (C : dC c c') (C1 : ∀ i, c' 41 i = if i = k then -1 else if i = t then c 41 k else c 41 i) (C2 : ∀ i, c' 42 i = if i = k then 0 else if i = t then pr else c 42 i) (C4 : ∀ i, c' 44 i = if i = t then 1 else c 44 i) (C5 : ∀ i, c' 45 i = if i = k then 0 else c 45 i)
    (M : dM m m') (M7 : ∀ i, m' 67 i = if i = k then -1 else if i = t then m 67 k else m 67 i) (M8 : ∀ i, m' 68 i = if i = k then 0 else if i = t then pr else m 68 i) (M9 : ∀ i, m' 69 i = if i = k then 0 else if i = t then 0 else m 69 i) (M2 : ∀ i, m' 72 i = if i = t then 1 else m 72 i) : DT (pW k P) n c' m' := by
  obtain ⟨hE, hS, hG, hO, hI, hQ, ho, hj, hd⟩ := h
  obtain ⟨c37, c38, c39, c40, c43⟩ := C
  obtain ⟨m49, m70, m71, m73⟩ := M
  have hsd : sdsM m' = sdsM m := by unfold sdsM; rw [m49]
  have hs2 : sdsM m ≤ 2 := by unfold sdsM; split <;> omega
  refine ⟨?_, fun i hi => ?_, ?_, ?_, ⟨fun i hi => ?_, fun i j hi hj2 hij hne => ?_⟩, ?_, ?_, ?_, fun i hi => ?_⟩
  · unfold pE; rw [c40, c37, m49]; exact hE
  · obtain ⟨s1, s2, s3, s4⟩ := hS i hi
    obtain ⟨t1, t2, t3, t4⟩ := hS k hk
    rw [C1, C2, c43, M7, M8, m71]
    by_cases e1 : i = k
    · simp only [e1, if_true]
      exact ⟨trivial, trivial, t3, t4⟩
    · simp only [e1, if_false]
      by_cases e2 : i = t
      · simp only [e2, if_true]
        subst e2
        exact ⟨t1, trivial, s3, s4⟩
      · simp only [e2, if_false]
        exact ⟨s1, s2, s3, s4⟩
  · unfold pG; rw [m49]; exact hG
  · unfold pO; rw [c38, c39, m49, m70, m73]; exact hO
  · obtain ⟨s1, s2, s3, s4⟩ := hI.1 i hi
    obtain ⟨t1, t2, t3, t4⟩ := hI.1 k hk
    rw [M7, M8, m73, m49, hsd]
    by_cases e1 : i = k
    · simp only [e1, if_true]
      exact ⟨Or.inl trivial, by omega, by omega, fun q => absurd rfl q⟩
    · simp only [e1, if_false]
      by_cases e2 : i = t
      · simp only [e2, if_true]
        exact ⟨t1, hp0, by omega, fun _ => ⟨hp1, fun q => hp2 q⟩⟩
      · simp only [e2, if_false]
        exact ⟨s1, s2, s3, s4⟩
  · rw [M7] at hne
    rw [M7, M7]
    by_cases e1 : i = k
    · simp only [e1, if_true] at hne
      exact absurd rfl hne
    · simp only [e1, if_false] at hne ⊢
      by_cases e3 : j = k
      · simp only [e3, if_true]
        exact hne
      · simp only [e3, if_false]
        by_cases e2 : i = t
        · simp only [e2, if_true] at hne ⊢
          by_cases e4 : j = t
          · exact absurd (e2.trans e4.symm) hij
          · simp only [e4, if_false]
            exact hI.2 k j hk hj2 (fun q => e3 q.symm) hin
        · simp only [e2, if_false] at hne ⊢
          by_cases e4 : j = t
          · simp only [e4, if_true]
            exact hI.2 i k hi hk e1 hne
          · simp only [e4, if_false]
            exact hI.2 i j hi hj2 hij hne
  · unfold pQ; rw [c37, m49]; exact hQ
  · rw [m49]; exact ho
  · rw [m49]; exact hj
  · obtain ⟨d1, d2, d3, d4, d5, d6, d7, d8, d9⟩ := hd i hi
    unfold dS
    rw [C4, C5, M9, M2, M7]
    by_cases e1 : i = k
    · subst e1
      rw [pW_y]
      simp only [if_true, hkt, if_false]
      refine ⟨d1, d2, fun q => ?_, by omega, by omega, by omega, by omega, fun _ => ⟨trivial, fun _ => trivial⟩, fun q => by cases q⟩
      rw [hmv] at q; omega
    · rw [pW_n e1]
      simp only [e1, if_false]
      by_cases e2 : i = t
      · subst e2
        simp only [if_true]
        refine ⟨trivial, Or.inr trivial, fun _ => ⟨trivial, hin⟩, by omega, by omega, d6, d7, fun q => ?_, fun _ => ⟨by omega, Or.inr (Or.inr trivial)⟩⟩
        obtain ⟨f1, f2⟩ := d8 q
        exact ⟨f1.trans (f2 hfree), fun q => absurd q hin⟩
      · simp only [e2, if_false]
        exact ⟨d1, d2, d3, d4, d5, d6, d7, d8, d9⟩
/-- nothing goes: the row ends; or the sheet sticks -/
theorem dt_stay {P : Nat → Bool} {n : Int} {c m c' m' : gS} {k : Nat} {v : Int} (h : DT P n c m) (hk : k < 4) (hv0 : 0 ≤ v) (hv4 : v ≤ 4) (hv1 : m 72 k = 1 → v = 0) (hv2 : m 67 k = -1 → v = 0)
    (C : dC c c') (C1 : c' 41 = c 41) (C2 : c' 42 = c 42) (C4 : c' 44 = c 44) (C5 : ∀ i, c' 45 i = if i = k then v else c 45 i)
    (M : dM m m') (M7 : m' 67 = m 67) (M8 : m' 68 = m 68) (M9 : ∀ i, m' 69 i = if i = k then v else m 69 i) (M2 : m' 72 = m 72) : DT (pW k P) n c' m' := by
  obtain ⟨hE, hS, hG, hO, hI, hQ, ho, hj, hd⟩ := h
  obtain ⟨c37, c38, c39, c40, c43⟩ := C
  obtain ⟨m49, m70, m71, m73⟩ := M
  have hsd : sdsM m' = sdsM m := by unfold sdsM; rw [m49]
  refine ⟨?_, ?_, ?_, ?_, ?_, ?_, ?_, ?_, fun i hi => ?_⟩
  · unfold pE; rw [c40, c37, m49]; exact hE
  · unfold pS; rw [C1, C2, c43, M7, M8, m71]; exact hS
  · unfold pG; rw [m49]; exact hG
  · unfold pO; rw [c38, c39, m49, m70, m73]; exact hO
  · unfold pI; rw [M7, M8, m73, m49, hsd]; exact hI
  · unfold pQ; rw [c37, m49]; exact hQ
  · rw [m49]; exact ho
  · rw [m49]; exact hj
  · obtain ⟨d1, d2, d3, d4, d5, d6, d7, d8, d9⟩ := hd i hi
    unfold dS
    rw [C4, C5, M9, M2, M7]
    by_cases e1 : i = k
    · subst e1
      rw [pW_y]
      simp only [if_true]
      exact ⟨d1, d2, fun q => ⟨hv1 q, (d3 q).2⟩, hv0, hv4, hv0, hv4, fun _ => ⟨trivial, hv2⟩, fun q => by cases q⟩
    · rw [pW_n e1]
      simp only [e1, if_false]
      exact ⟨d1, d2, d3, d4, d5, d6, d7, d8, d9⟩

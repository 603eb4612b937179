/-! jams; all sections in their order -/
def jC (s : gS) : gS := g_up (g_up s 40 11 1) 40 10 (s 40 10 + 1)
def jS (j : Nat) (s : gS) : gS := if w32 (s 45 j) < 4 then s else if w32 (s 40 11) = 0 then jC s else s
theorem jam_step {k : Int → gS → gA} {j : Nat} {s : gS} (hj : j < 4) : Machine_moveAll_46 k j s = k ((j + 1 : Nat) : Int) (jS j s) := by
  unfold Machine_moveAll_46 Machine_moveAll_83 jS jC
  rw [w_nat (by omega), if_neg (by omega), if_pos (show (0 : Int) ≤ j ∧ (j : Int) < 4 by omega), Int.toNat_natCast]
  simp (disch := decide) only [g_le_s, up_n]
  split
  · rfl
  · split <;> rfl
theorem jam_end {k : Int → gS → gA} {s : gS} : Machine_moveAll_46 k ((4 : Nat) : Int) s = some (0, s) := by
  unfold Machine_moveAll_46
  rw [if_pos (by decide)]
theorem jam_all (s : gS) : Machine_moveAll_46L gFu 0 s = some (0, jS 3 (jS 2 (jS 1 (jS 0 s)))) := by
  show Machine_moveAll_46 (Machine_moveAll_46 (Machine_moveAll_46 (Machine_moveAll_46 (Machine_moveAll_46 (Machine_moveAll_46L 999999999995))))) ((0 : Nat) : Int) s = _
  rw [jam_step (by decide), jam_step (by decide), jam_step (by decide), jam_step (by decide), jam_end]
theorem jS_n {j : Nat} {s : gS} (h : 0 ≤ s 45 j) (h2 : s 45 j ≤ 3) : jS j s = s := by
  unfold jS
  rw [w32_id (by omega) (by omega), if_pos (by omega)]
theorem jS_y {j : Nat} {s : gS} (h : s 45 j = 4) (h2 : s 40 11 = 0) : jS j s = jC s := by
  unfold jS
  rw [h, h2, if_neg (by decide), if_pos (by decide)]
theorem jS_j (j : Nat) (s : gS) : jS j (jC s) = jC s := by
  unfold jS
  split
  · rfl
  · rw [if_neg]
    unfold jC
    simp (disch := decide) only [up_n, up_y]
    decide
theorem jam_no {s : gS} (h : ∀ i, i < 4 → 0 ≤ s 45 i ∧ s 45 i ≤ 3) : jS 3 (jS 2 (jS 1 (jS 0 s))) = s := by
  rw [jS_n (h 0 (by decide)).1 (h 0 (by decide)).2, jS_n (h 1 (by decide)).1 (h 1 (by decide)).2, jS_n (h 2 (by decide)).1 (h 2 (by decide)).2, jS_n (h 3 (by decide)).1 (h 3 (by decide)).2]
theorem jam_yes {s : gS} (h : ∀ i, i < 4 → 0 ≤ s 45 i ∧ s 45 i ≤ 4) (h11 : s 40 11 = 0) (hy : ∃ i, i < 4 ∧ s 45 i = 4) : jS 3 (jS 2 (jS 1 (jS 0 s))) = jC s := by
  have one : ∀ j, j < 4 → (s 45 j = 4 ∧ jS j s = jC s) ∨ (s 45 j ≠ 4 ∧ jS j s = s) := by
    intro j hj
    by_cases e : s 45 j = 4
    · exact Or.inl ⟨e, jS_y e h11⟩
    · exact Or.inr ⟨e, jS_n (h j hj).1 (by have := (h j hj).2; omega)⟩
  rcases one 0 (by decide) with ⟨e0, q0⟩ | ⟨e0, q0⟩
  · rw [q0, jS_j, jS_j, jS_j]
  rcases one 1 (by decide) with ⟨e1, q1⟩ | ⟨e1, q1⟩
  · rw [q0, q1, jS_j, jS_j]
  rcases one 2 (by decide) with ⟨e2, q2⟩ | ⟨e2, q2⟩
  · rw [q0, q1, q2, jS_j]
  rcases one 3 (by decide) with ⟨e3, q3⟩ | ⟨e3, q3⟩
  · rw [q0, q1, q2, q3]
  · obtain ⟨i, hi, e⟩ := hy
    exfalso
    rcases (show i = 0 ∨ i = 1 ∨ i = 2 ∨ i = 3 by omega) with rfl | rfl | rfl | rfl <;> omega
def z69 (s : gS) : gS := g_up (g_up (g_up (g_up s 69 0 0) 69 1 0) 69 2 0) 69 3 0
theorem z69_at (s : gS) {i : Nat} (hi : i < 4) : z69 s 69 i = 0 := by
  unfold z69
  rcases (show i = 0 ∨ i = 1 ∨ i = 2 ∨ i = 3 by omega) with rfl | rfl | rfl | rfl <;> simp (disch := decide) only [up_n, up_y]
theorem z69_ne (s : gS) {q : Nat} (hq : q ≠ 69) : z69 s q = s q := by
  unfold z69
  simp (disch := omega) only [g_up_ne]
theorem zj_step {k : Int → gS → gA} {j : Nat} {s : gS} (hj : j < 4) : M_tickOnce_308 k j s = k ((j + 1 : Nat) : Int) (g_up s 69 j 0) := by
  unfold M_tickOnce_308
  rw [w_nat (by omega), if_neg (by omega), if_pos (show (0 : Int) ≤ j ∧ (j : Int) < 4 by omega), Int.toNat_natCast]
  rfl
theorem zj_all (s : gS) : M_tickOnce_308L gFu 0 s = some (0, z69 s) := by
  show M_tickOnce_308 (M_tickOnce_308 (M_tickOnce_308 (M_tickOnce_308 (M_tickOnce_308 (M_tickOnce_308L 999999999995))))) ((0 : Nat) : Int) s = _
  rw [zj_step (by decide), zj_step (by decide), zj_step (by decide), zj_step (by decide)]
  unfold M_tickOnce_308
  rw [if_pos (by decide)]
  rfl
section ALL
variable {n : Int} {c m : gS}
theorem fM_z69 : fM pcT m (z69 m) := fM_tr (fM_tr (fM_tr (fM_up rfl) (fM_up rfl)) (fM_up rfl)) (fM_up rfl)
/-- behind the turns: feeding, and a jam if a row is full -/
theorem end_both {t : Int} (h : AT n c m) (ht : t = 0 ∨ t = 1) (hj : t = 1 ↔ ∃ i, i < 4 ∧ m 69 i = 4) : ∃ c' m' : gS, (g_bi (Machine_feed c) fun _ s => Machine_moveAll_46L gFu 0 s) = some (0, c') ∧ M_tickOnce_280 t m = some (0, m') ∧ RP n c' m' ∧ fC pcC c c' ∧ fM pcT m m' := by
  obtain ⟨c1, m1, k1, k2, k3, k4, k5, k6⟩ := op_feed h
  obtain ⟨hE, hS, hG, hO, hI, hQ, ho, hjj, hd⟩ := id k3
  unfold M_tickOnce_280
  rw [k1, g_bi_s, jam_all, k2, g_bi_s, w32_01 ht]
  by_cases e : t = 0
  · rw [if_pos e]
    have hno : ∀ i, i < 4 → m1 69 i ≤ 3 := by
      intro i hi
      have h1 : ¬ (t = 1) := by omega
      have h2 : ¬ m 69 i = 4 := fun q => h1 (hj.mpr ⟨i, hi, q⟩)
      have h3 := (hd i hi).2.2.1
      rw [k4 i hi] at h3 ⊢
      omega
    refine ⟨_, _, rfl, rfl, ?_, ?_, k6⟩
    · rw [jam_no (fun i hi => by rw [(hd i hi).1]; exact ⟨(hd i hi).2.1, hno i hi⟩)]
      refine ⟨hE, hS, hG, hO, hI, fun i hi => ?_, hQ⟩
      obtain ⟨t1, t2, t3, t4⟩ := hd i hi
      have := hno i hi
      exact ⟨Or.inl t1, t2, this, by omega, by omega⟩
    · rw [jam_no (fun i hi => by rw [(hd i hi).1]; exact ⟨(hd i hi).2.1, hno i hi⟩)]
      exact k5
  · rw [if_neg e]
    have e1 : t = 1 := by omega
    obtain ⟨i0, hi0, q0⟩ := hj.mp e1
    have hy : jS 3 (jS 2 (jS 1 (jS 0 c1))) = jC c1 := jam_yes (fun i hi => by rw [(hd i hi).1]; exact ⟨(hd i hi).2.1, (hd i hi).2.2.1⟩) (by rw [hE.2.2.2.2.2.1]; exact hjj) ⟨i0, hi0, by rw [(hd i0 hi0).1, k4 i0 hi0]; exact q0⟩
    rw [g_le_s, g_le_s, up_n (show ¬ (49 = 49 ∧ 43 = 47) by decide), zj_all, hy]
    refine ⟨_, _, rfl, rfl, ?_, fC_tr k5 (fC_tr (fC_up rfl) (fC_up rfl)), fM_tr k6 (fM_tr (fM_tr (fM_up rfl) (fM_up rfl)) fM_z69)⟩
    unfold jC
    have zz : ∀ i, i < 4 → z69 (g_up (g_up m1 49 47 1) 49 43 (m1 49 43 + 1)) 69 i = 0 := fun i hi => z69_at _ hi
    have zn : ∀ q, q ≠ 69 → z69 (g_up (g_up m1 49 47 1) 49 43 (m1 49 43 + 1)) q = g_up (g_up m1 49 47 1) 49 43 (m1 49 43 + 1) q := fun q hq => z69_ne _ hq
    generalize z69 (g_up (g_up m1 49 47 1) 49 43 (m1 49 43 + 1)) = m2 at zz zn ⊢
    unfold RP pE pS pG pO pI pK pQ sdsM at *
    simp (disch := decide) only [zn, up_n, up_y, g_up_ne]
    refine ⟨⟨hE.1, hE.2.1, hE.2.2.1, hE.2.2.2.1, by rw [hE.2.2.2.2.1], trivial, hE.2.2.2.2.2.2⟩, hS, ⟨hG.1, hG.2.1, hG.2.2.1, hG.2.2.2.1, hG.2.2.2.2.1, Or.inr trivial, hG.2.2.2.2.2.2⟩, hO, hI, fun i hi => ?_, hQ⟩
    rw [zz i hi]
    obtain ⟨t1, t2, t3, t4⟩ := hd i hi
    exact ⟨Or.inr (Or.inr trivial), by omega, by omega, by omega, by omega⟩
theorem all_both (h : DT (fun _ => false) n c m) : ∃ c' m' : gS, Machine_moveAll_20 c = some (0, c') ∧ M_tickOnce_216 0 m = some (0, m') ∧ RP n c' m' ∧ fC pcC c c' ∧ fM pcT m m' := by
  obtain ⟨z2, c2, m2, a1, a2, a3, a4, a5, a6, a7, a8⟩ := tn_2 h rfl
  obtain ⟨z3, c3, m3, b1, b2, b3, b4, b5, b6, b7, b8⟩ := tn_3 a3 rfl
  obtain ⟨z1, c4, m4, d1, d2, d3, d4, d5, d6, d7, d8⟩ := tn_1 b3 rfl
  obtain ⟨z0, c5, m5, e1, e2, e3, e4, e5, e6, e7, e8⟩ := tn_0 d3 rfl
  have hA : AT n c5 m5 := DT_AT e3 (fun i hi => by rcases (show i = 0 ∨ i = 1 ∨ i = 2 ∨ i = 3 by omega) with rfl | rfl | rfl | rfl <;> rfl)
  have q1 : m5 69 1 = m4 69 1 := e6 1 (by decide) (by decide) rfl
  have q3 : m5 69 3 = m3 69 3 := (e6 3 (by decide) (by decide) rfl).trans (d6 3 (by decide) (by decide) rfl)
  have q2 : m5 69 2 = m2 69 2 := ((e6 2 (by decide) (by decide) rfl).trans (d6 2 (by decide) (by decide) rfl)).trans (b6 2 (by decide) (by decide) rfl)
  rw [← q2] at a5
  rw [← q3] at b5
  rw [← q1] at d5
  have hj : (if z2 = 1 ∨ z3 = 1 ∨ z1 = 1 ∨ z0 = 1 then (1 : Int) else 0) = 1 ↔ ∃ i, i < 4 ∧ m5 69 i = 4 := by
    constructor
    · intro q
      split at q
      · next hq =>
        rcases hq with hq | hq | hq | hq
        · exact ⟨2, by decide, a5.mp hq⟩
        · exact ⟨3, by decide, b5.mp hq⟩
        · exact ⟨1, by decide, d5.mp hq⟩
        · exact ⟨0, by decide, e5.mp hq⟩
      · omega
    · rintro ⟨i, hi, q⟩
      rw [if_pos]
      rcases (show i = 0 ∨ i = 1 ∨ i = 2 ∨ i = 3 by omega) with rfl | rfl | rfl | rfl
      · exact Or.inr (Or.inr (Or.inr (e5.mpr q)))
      · exact Or.inr (Or.inr (Or.inl (d5.mpr q)))
      · exact Or.inl (a5.mpr q)
      · exact Or.inr (Or.inl (b5.mpr q))
  obtain ⟨c6, m6, f1, f2, f3, f4, f5⟩ := end_both hA b01 hj
  refine ⟨c6, m6, ?_, ?_, f3, fC_tr (fC_tr (fC_tr (fC_tr a7 b7) d7) e7) f4, fM_tr (fM_tr (fM_tr (fM_tr a8 b8) d8) e8) f5⟩
  · unfold Machine_moveAll_20
    rw [show Machine_moveFrom 2 c = some (0, c2) from a1, g_bi_s, show Machine_moveFrom 3 c2 = some (0, c3) from b1, g_bi_s, show Machine_moveFrom 1 c3 = some (0, c4) from d1, g_bi_s, show Machine_moveFrom 0 c4 = some (0, c5) from e1, g_bi_s]
    exact f1
  · unfold M_tickOnce_216
    rw [if_pos (by decide), show M_turn 2 m = some (z2, m2) from a2, g_bi_s, show M_turn 3 m2 = some (z3, m3) from b2, g_bi_s, w32_01 a4, w32_01 b4]
    unfold M_tickOnce_239 M_tickOnce_244
    rw [show M_turn 1 m3 = some (z1, m4) from d2, g_bi_s, g_bi_s, w32_01 d4]
    unfold M_tickOnce_257 M_tickOnce_262
    rw [show M_turn 0 m4 = some (z0, m5) from e2, g_bi_s, g_bi_s, w32_01 e4]
    unfold M_tickOnce_275
    rw [← f2]
    rcases a4 with rfl | rfl <;> rcases b4 with rfl | rfl <;> rcases d4 with rfl | rfl <;> rcases e4 with rfl | rfl <;> simp [w_0, w_1]
end ALL

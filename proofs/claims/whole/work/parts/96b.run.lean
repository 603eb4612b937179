/-! a run of steps -/
def enM (q k : Nat) : Bool := (decide (q = 49) && (decide (k = 5) || decide (k = 6) || decide (k = 7) || decide (k = 44))) || decide (q = 73)
section RU
variable {L : Nat} {c m c' m' : gS}
theorem end_loop : ∀ (d i N : Nat) (x : gS), i + d = 40 → ∃ x', M_endJob_56L (N + d + 1) i x = some (0, x') ∧ (∀ j, i ≤ j → j < 40 → x' 73 j = 0) ∧ (∀ j, j < i → x' 73 j = x 73 j) ∧ ∀ q, q ≠ 73 → x' q = x q := by
  intro d
  induction d with
  | zero =>
    intro i N x hi
    refine ⟨x, ?_, fun _ _ _ => by omega, fun _ _ => rfl, fun _ _ => rfl⟩
    show M_endJob_56 _ _ _ = _
    unfold M_endJob_56
    rw [show i = 40 by omega, if_pos (by decide)]
  | succ d ih =>
    intro i N x hi
    have b1 : (0 : Int) ≤ (i : Int) ∧ (i : Int) < 40 := ⟨by omega, by omega⟩
    obtain ⟨x', i1, i2, i3, i4⟩ := ih (i + 1) N (g_up x 73 i 0) (by omega)
    refine ⟨x', ?_, fun j a b => ?_, fun j hj => by rw [i3 j (by omega), up_n (by omega)], fun q hq => by rw [i4 q hq, g_up_ne hq]⟩
    · show M_endJob_56 (M_endJob_56L (N + d + 1)) _ _ = _
      unfold M_endJob_56
      rw [w_nat (by omega), if_neg (by omega), if_pos b1, g_le_s, Int.toNat_natCast, show i_nar .boolean 0 = 0 by decide]
      exact i1
    · rcases (show j = i ∨ i + 1 ≤ j by omega) with rfl | q
      · rw [i3 j (by omega), up_y]
      · exact i2 j q b
theorem endM {z q : Int} (hz : 0 ≤ z ∧ z ≤ 12) (hk : 0 ≤ m 49 8 ∧ m 49 8 ≤ 8) (hs : m 49 12 = 0 ∨ m 49 12 = 1) : ∃ m', M_endJob z q m = some (0, m') ∧ m' 49 5 = 2 ∧ m' 49 6 = z ∧ m' 49 7 = (if z = 0 then 0 else q) ∧ m' 49 44 = m 49 11 * (if m 49 12 = 0 then m 49 8 else (m 49 8 + 1) / 2) ∧ (∀ i, i < 40 → m' 73 i = 0) ∧ fM enM m m' := by
  obtain ⟨x, hx⟩ : ∃ x, x = g_up (g_up (g_up (g_up m 49 5 2) 49 6 z) 49 7 (if z = 0 then 0 else q)) 49 44 (m 49 11 * (if m 49 12 = 0 then m 49 8 else (m 49 8 + 1) / 2)) := ⟨_, rfl⟩
  obtain ⟨x', i1, i2, i3, i4⟩ := end_loop 40 0 (1000000000000 - 41) x (by omega)
  rw [show 1000000000000 - 41 + 40 + 1 = gFu from rfl, show ((0 : Nat) : Int) = 0 from rfl] at i1
  have fx : fM enM m x := by
    rw [hx]
    (iterate 4 refine fM_tr ?_ (fM_up rfl))
    exact fM_rf _ _
  have e20 : M_endJob_20 (if z = 0 then 0 else q) (g_up (g_up m 49 5 2) 49 6 z) = some (0, x') := by
    unfold M_endJob_20 M_endJob_50
    rw [g_le_s, up_n (by decide), up_n (by decide), up_n (by decide), w32_01 hs, up_n (by decide), up_n (by decide), up_n (by decide), up_n (by decide), up_n (by decide), up_n (by decide)]
    rcases hs with e | e
    · rw [if_pos (show m 49 12 = 0 from e), g_le_s]
      rw [if_pos (show m 49 12 = 0 from e)] at hx
      rw [← hx]
      exact i1
    · rw [if_neg (show ¬ m 49 12 = 0 by omega), g_le_s, i_div_nn (by omega) (by omega) (by decide) (by decide)]
      rw [if_neg (show ¬ m 49 12 = 0 by omega)] at hx
      rw [← hx]
      exact i1
  refine ⟨x', ?_, ?_, ?_, ?_, ?_, fun i hi => i2 i (by omega) hi, fM_tr fx (fun a b hab => by rw [i4 a (fun e => by subst e; cases hab)])⟩
  · unfold M_endJob
    rw [g_le_s, g_le_s, w32_id (z := z) (by omega) (by omega)]
    by_cases e : z = 0
    · rw [if_pos e]
      rw [if_pos e] at e20
      exact e20
    · rw [if_neg e]
      rw [if_neg e] at e20
      exact e20
  · rw [i4 49 (by decide), hx, up_n (by decide), up_n (by decide), up_n (by decide), up_y]
  · rw [i4 49 (by decide), hx, up_n (by decide), up_n (by decide), up_y]
  · rw [i4 49 (by decide), hx, up_n (by decide), up_y]
  · rw [i4 49 (by decide), hx, up_y]
theorem m151_2 {K : Int → Int → gS → gA} {K2 : gS → gA} {a b : Int} (h : m 49 5 = 2) : M_run_49 K K2 a b m = K2 m := by
  unfold M_run_49
  rw [h, if_neg (by decide)]
theorem c75_2 {K : Int → Int → gS → gT} {K2 : gS → gT} {a b : Int} (h : c 5 8 = 2) : B_run_47 K K2 a b c = K2 c := by
  unfold B_run_47 Job_isUnderWay
  rw [h, if_neg (show ¬ w32 2 = 1 by decide), g_bi_s, if_pos (show w32 0 = 0 from rfl)]
  split <;> rfl
/-- how a run has ended -/
def ENDS (L : Nat) (c m m1 m'' : gS) (z q : Int) : Prop := M_endJob z q m1 = some (0, m'') ∧ (0 ≤ z ∧ z ≤ 12) ∧ (0 ≤ q ∧ q < 300) ∧ c 5 8 = 2 ∧ c 5 9 = z ∧ c 5 10 = (if z = 0 then 0 else q) ∧ c 5 11 = m1 49 9 ∧ c 5 12 = m1 49 10 ∧ (0 ≤ m1 49 9 ∧ m1 49 9 ≤ m1 49 10 ∧ m1 49 10 ≤ 20000) ∧ JS L c m1 ∧ RJ L c m1 ∧ fM stM m m1
theorem run_loop {nn : Nat} (hnn : nn ≤ 5000) (hsd : m 49 12 = 0 ∨ m 49 12 = 1) : ∀ (d N N2 : Nat) (c x : gS) (p : Int), d ≤ nn → LSt L c x p → fM stM m x → ∃ c', B_run_47L B_run_75 (N + d + 1) nn (((nn - d : Nat)) : Int) c = B_run_75 c' ∧ fC stC c c' ∧ ((∃ (x' : gS) (p' : Int), M_run_49L M_run_151 (N2 + d + 3) d p x = M_run_151 x' ∧ LSt L c' x' p' ∧ p' ≠ -1 ∧ fM stM m x') ∨ ∃ (z q : Int) (m1 m'' : gS), M_run_49L M_run_151 (N2 + d + 3) d p x = M_run_151 m'' ∧ m'' 49 5 = 2 ∧ ENDS L c' m m1 m'' z q) := by
  have over : ∀ (d N N2 : Nat) (c x : gS), d ≤ nn → LSt L c x (-1) → fM stM m x → ∃ c', B_run_47L B_run_75 (N + d + 1) nn (((nn - d : Nat)) : Int) c = B_run_75 c' ∧ fC stC c c' ∧ ((∃ (x' : gS) (p' : Int), M_run_49L M_run_151 (N2 + d + 3) d (-1) x = M_run_151 x' ∧ LSt L c' x' p' ∧ p' ≠ -1 ∧ fM stM m x') ∨ ∃ (z q : Int) (m1 m'' : gS), M_run_49L M_run_151 (N2 + d + 3) d (-1) x = M_run_151 m'' ∧ m'' 49 5 = 2 ∧ ENDS L c' m m1 m'' z q) := by
    intro d N N2 c x hd h hx
    obtain ⟨h1, h2, h3, h4, h5, h6, h7, h8⟩ := id h
    rw [if_pos rfl] at h6
    obtain ⟨n1, n2, n3, n4, n5, n6, n7⟩ := h4
    obtain ⟨k, hg⟩ := h2.2.2.2.2.1
    have hk := hg.1
    have hx12 : x 49 12 = m 49 12 := hx 49 12 rfl
    obtain ⟨m'', e1, e2, e3, e4, e5, e6, e7⟩ := endM (z := 0) (q := 0) (m := x) (by decide) (by rw [hg.2.2.1]; omega) (by rw [hx12]; exact hsd)
    refine ⟨c, c75_2 h6, fC_rf _ _, Or.inr ⟨0, 0, x, m'', ?_, e2, e1, by decide, by decide, h6, by rw [n1, h7], by rw [n2, h8]; rfl, n3, n4, n7, h1, h2, hx⟩⟩
    show M_run_49 (M_run_49 (M_run_49L M_run_151 (N2 + d + 1)) M_run_151) M_run_151 _ _ _ = _
    have s1 : ∀ K : Int → Int → gS → gA, M_run_49 K M_run_151 d (-1) x = K d (-1) m'' := by
      intro K
      unfold M_run_49 M_run_66
      rw [h5, if_pos (by decide), if_pos (by decide), if_pos (by decide), e1, g_bi_s]
    rw [s1, m151_2 e2]
  intro d
  induction d with
  | zero =>
    intro N N2 c x p hd h hx
    by_cases hp : p = -1
    · subst hp
      exact over 0 N N2 c x hd h hx
    · obtain ⟨h1, h2, h3, h4, h5, h6, h7, h8⟩ := id h
      refine ⟨c, ?_, fC_rf _ _, Or.inl ⟨x, p, ?_, h, hp, hx⟩⟩
      · show B_run_47 _ B_run_75 _ _ _ = _
        unfold B_run_47
        rw [Nat.sub_zero, if_pos (Int.le_refl _)]
      · show M_run_49 _ M_run_151 _ _ _ = _
        unfold M_run_49
        obtain ⟨q, rfl, hq, -⟩ := step_both h hp
        rw [h5, if_pos (by decide), w_nat (show q < 2147483648 by omega), if_neg (show ¬ (q : Int) = -1 by omega), if_pos (by decide)]
  | succ d ih =>
    intro N N2 c x p hd h hx
    by_cases hp : p = -1
    · subst hp
      exact over (d + 1) N N2 c x hd h hx
    · obtain ⟨h1, h2, h3, h4, h5, h6, h7, h8⟩ := id h
      rw [if_neg hp] at h6
      obtain ⟨n1, n2, n3, n4, n5, n6, n7⟩ := h4
      obtain ⟨q, hpq, hq, st⟩ := step_both h hp
      subst hpq
      have eC : ∀ c1, Job_step c = some (0, c1) → B_run_47L B_run_75 (N + (d + 1) + 1) nn (((nn - (d + 1) : Nat)) : Int) c = B_run_47L B_run_75 (N + d + 1) nn (((nn - d : Nat)) : Int) c1 := by
        intro c1 e
        show B_run_47 (B_run_47L B_run_75 (N + d + 1)) B_run_75 _ _ _ = _
        unfold B_run_47 Job_isUnderWay
        rw [w_nat (show nn < 2147483648 by omega), w_nat (show nn - (d + 1) < 2147483648 by omega), if_neg (by omega), h6, if_pos (by decide), g_bi_s, if_neg (by decide), e, g_bi_s, show (((nn - (d + 1) : Nat)) : Int) + 1 = (((nn - d : Nat)) : Int) by omega]
      have eM : ∀ K : Int → Int → gS → gA, M_run_49 K M_run_151 ((d + 1 : Nat) : Int) q x = M_run_66 K ((d + 1 : Nat) : Int) q x := by
        intro K
        unfold M_run_49
        rw [h5, if_pos (by decide), w_nat (show q < 2147483648 by omega), if_neg (show ¬ (q : Int) = -1 by omega), w_nat (show d + 1 < 2147483648 by omega), if_neg (by omega)]
      have e66 : ∀ K : Int → Int → gS → gA, M_run_66 K ((d + 1 : Nat) : Int) q x = if x 49 9 = x 49 10 then g_bi (M_errorOf (x 51 q) x) (fun r21 s22 => if w32 r21 ≤ 0 then M_run_116 K ((d + 1 : Nat) : Int) q 12 s22 else M_run_116 K ((d + 1 : Nat) : Int) q r21 s22) else g_bi (M_step q x) (fun _ s14 => if w32 (s14 49 5) = 1 then g_bi (M_next s14) (fun r17 s18 => M_run_147 K (((d + 1 : Nat) : Int) + (-1)) r17 s18) else M_run_147 K (((d + 1 : Nat) : Int) + (-1)) (-1) s14) := by
        intro K
        unfold M_run_66
        have bq : (0 : Int) ≤ (q : Int) ∧ (q : Int) < 300 := ⟨by omega, by omega⟩
        rw [w_nat (show q < 2147483648 by omega), if_neg (show ¬ (q : Int) = -1 by omega), w32_id (z := x 49 9) (by omega) (by omega), w32_id (z := x 49 10) (by omega) (by omega), if_pos bq, Int.toNat_natCast]
      rcases st with ⟨z, e, c1, m1, z1, e1, e2, e3, e4, e5, e6, e7, e8, e9, e10, e11, e12, e13, e14⟩ | ⟨c1, m2, x1, p1, s1, s2, s3, s4, s5, s6, s7, s8⟩
      · -- an error
        obtain ⟨k, hg⟩ := e12.2.2.2.2.1
        have hk := hg.1
        have hx12 : m1 49 12 = m 49 12 := by rw [e14 49 12 rfl]; exact hx 49 12 rfl
        obtain ⟨m'', y1, y2, y3, y4, y5, y6, y7⟩ := endM (z := z) (q := q) (m := m1) ⟨by omega, z1.2⟩ (by rw [hg.2.2.1]; omega) (by rw [hx12]; exact hsd)
        refine ⟨c1, ?_, e13, Or.inr ⟨z, q, m1, m'', ?_, y2, y1, ⟨by omega, z1.2⟩, ⟨by omega, by omega⟩, e6, e7, by rw [e8, if_neg (show ¬ z = 0 by omega)], by rw [e9, e14 49 9 rfl], by rw [e10, e14 49 10 rfl], by rw [e14 49 9 rfl, e14 49 10 rfl]; exact n7, e11, e12, fM_tr hx (fM_6x e14)⟩⟩
        · rw [eC c1 e5]
          exact c75_2 e6
        · show M_run_49 (M_run_49 (M_run_49L M_run_151 (N2 + d + 2)) M_run_151) M_run_151 _ _ _ = _
          rw [eM, e66]
          by_cases lm : x 49 9 = x 49 10
          · rw [if_pos lm, e1, g_bi_s, w32_id (z := e) (by omega) (by omega)]
            unfold M_run_116
            by_cases e0 : e = 0
            · rw [if_pos (show e ≤ 0 by omega), ← (e4 e0).1, y1, g_bi_s, m151_2 y2]
            · rw [if_neg (show ¬ e ≤ 0 by omega), ← e3 e0, y1, g_bi_s, m151_2 y2]
          · have e0 : e ≠ 0 := fun y => lm (e4 y).2
            have eS : M_step q x = some (0, m'') := by
              unfold M_step
              have bq : (0 : Int) ≤ (q : Int) ∧ (q : Int) < 300 := ⟨by omega, by omega⟩
              rw [w_nat (show q < 2147483648 by omega), if_pos bq, g_le_s, Int.toNat_natCast, e1, g_bi_s, w32_id (z := e) (by omega) (by omega), if_neg (show ¬ e ≤ 0 by omega), ← e3 e0, y1, g_bi_s]
            rw [if_neg lm, eS, g_bi_s, y2, if_neg (by decide)]
            unfold M_run_147
            rw [m151_2 y2]
      · -- the word is done
        obtain ⟨c', i1, i2, i3⟩ := ih N N2 c1 x1 p1 (by omega) s6 (fM_tr hx s8)
        have eL : M_run_49L M_run_151 (N2 + (d + 1) + 3) ((d + 1 : Nat) : Int) q x = M_run_49L M_run_151 (N2 + d + 3) d p1 x1 := by
          show M_run_49 (M_run_49L M_run_151 (N2 + d + 3)) M_run_151 _ _ _ = _
          rw [eM, e66, if_neg (by omega), s3, g_bi_s, s4, if_pos (by decide), s5, g_bi_s]
          unfold M_run_147
          rw [show ((d + 1 : Nat) : Int) + (-1) = (d : Int) by omega]
        rw [eC c1 s2, eL]
        exact ⟨c', i1, fC_tr s7 i2, i3⟩
end RU

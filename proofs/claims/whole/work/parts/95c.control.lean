/-! procedures are entered and left -/
section CT
variable {L n l s k D : Nat} {c m c' m' : gS} {w : Int}
theorem RJ_n (f1 : fC nC c c') (f2 : fM nM m m') (h : RJ L c m) : RJ L c' m' := by
  obtain ⟨⟨n, hv⟩, hW, ⟨l, hm⟩, ⟨s, hp⟩, ⟨k, hg⟩, hz⟩ := h
  refine ⟨⟨n, JV_congr (by rw [f1 18 rfl]) (f1 19 rfl) (f2 49 13 rfl) (funext fun i => f2 52 i rfl) (funext fun i => f2 54 i rfl) (funext fun i => f2 51 i rfl) hv⟩, JW_congr (f1 20 rfl) (funext fun i => f2 53 i rfl) hW, ⟨l, JM_congr (by rw [f1 21 rfl]) (f1 22 rfl) (f1 23 rfl) (f1 24 rfl) (f1 25 rfl) (f1 26 rfl) (f1 27 rfl) (f2 49 32 rfl) (funext fun i => f2 62 i rfl) (funext fun i => f2 63 i rfl) hm⟩, ⟨s, JP_congr (f1 28 rfl) (f1 29 rfl) (f1 30 rfl) (f1 31 rfl) (fun j a b => f2 49 j ?_) (funext fun i => f2 59 i rfl) (funext fun i => f2 60 i rfl) (funext fun i => f2 61 i rfl) hp⟩, ⟨k, JG_congr (f1 34 rfl) (f1 35 rfl) (f1 36 rfl) (f2 49 8 rfl) (f2 49 36 rfl) (funext fun i => f2 64 i rfl) hg⟩, fun j hj => by rw [f1 17 rfl]; exact hz j hj⟩
  unfold nM
  rw [decide_eq_false (show ¬ j = 17 by omega)]
  rfl
theorem fC_nb (f : fC nC c c') : fC bC c c' := fC_mono (fun q h => by
  unfold nC at h
  unfold bC
  simp only [Bool.and_eq_true, decide_eq_true_eq] at h ⊢
  omega) f
theorem fM_nb (f : fM nM m m') : fM bM m m' := fM_mono (fun q j h => by
  unfold nM at h
  unfold bM
  simp only [Bool.or_eq_true, Bool.and_eq_true, decide_eq_true_eq] at h ⊢
  omega) f
theorem enter_both (hs : JS L c m) (hu : CU L D c m) (hD : D < 21) {j : Nat} (hj : j < L) (hb : m 51 j = 123) {t t' : Int} (ht : (t = 0 ∧ t' = -1) ∨ (t = t' ∧ 1 ≤ t ∧ t ≤ 1000000)) : ∃ (q : Nat) (c' m' : gS), q < L ∧ brc (m 51) j q ∧ Calls_enter (2000000 + (j : Int)) t c = some (0, c') ∧ M_enter ((j : Int) + 1) q t' m = some (0, m') ∧ PX L c' m' ∧ fC nC c c' ∧ fM nM m m' := by
  have g := hs.2.2.1
  have hL := g.le
  obtain ⟨q, hq, b⟩ := brc_ex g hj hb
  have hjq := b.1
  obtain ⟨u1, u2, u3, u4⟩ := id hu
  obtain ⟨m1, hm1⟩ : ∃ x, x = g_up (g_up (g_up (g_up (g_up m 55 D ((j : Int) + 1)) 57 D ((j : Int) + 1)) 56 D q) 58 D t') 49 17 ((D : Int) + 1) := ⟨_, rfl⟩
  have bD : (0 : Int) ≤ (D : Int) ∧ (D : Int) < 22 := ⟨by omega, by omega⟩
  have bD1 : (0 : Int) ≤ (D : Int) ∧ (D : Int) < 21 := ⟨by omega, by omega⟩
  have hD2 : D < 2147483648 := by omega
  have eM : M_enter ((j : Int) + 1) q t' m = some (0, m1) := by
    unfold M_enter
    rw [u3, w_nat hD2, if_pos bD, g_le_s, g_up_ne (by decide), u3, w_nat hD2, if_pos bD, g_le_s, g_up_ne (by decide), g_up_ne (by decide), u3, w_nat hD2, if_pos bD, g_le_s, g_up_ne (by decide), g_up_ne (by decide), g_up_ne (by decide), u3, w_nat hD2, if_pos bD, g_le_s, g_le_s, g_up_ne (by decide), g_up_ne (by decide), g_up_ne (by decide), g_up_ne (by decide), u3, Int.toNat_natCast, ← hm1]
  have fm1 : fM nM m m1 := by
    rw [hm1]
    (iterate 5 refine fM_tr ?_ (fM_up rfl))
    exact fM_rf _ _
  have m51 : m1 51 = m 51 := funext fun i => fm1 51 i rfl
  have o55 : ∀ i, i ≠ D → m1 55 i = m 55 i ∧ m1 56 i = m 56 i ∧ m1 57 i = m 57 i ∧ m1 58 i = m 58 i := by
    intro i hi
    rw [hm1]
    simp (disch := first | decide | omega) only [g_up_ne, up_n]
    exact ⟨trivial, trivial, trivial, trivial⟩
  have y55 : m1 55 D = ((j + 1 : Nat) : Int) ∧ m1 56 D = q ∧ m1 57 D = ((j + 1 : Nat) : Int) ∧ m1 58 D = t' ∧ m1 49 17 = (D : Int) + 1 := by
    rw [hm1]
    simp (disch := decide) only [g_up_ne, up_y]
    exact ⟨rfl, trivial, rfl, trivial, trivial⟩
  have hs1 : JS L c m1 := JS_congr rfl rfl rfl (fm1 49 4 rfl) m51 hs
  have sk := skC hs (a := j + 1) (b := q) (by omega) (by omega)
  have sl := skp_lo (m 51) (q - (j + 1)) (j + 1)
  have eC : Calls_enter (2000000 + (j : Int)) t c = if (q : Int) ≤ (skp (m 51) (q - (j + 1)) (j + 1) : Int) then some (0, c) else g_bi (Calls_push ((j + 1 : Nat) : Int) q t c) (fun _ s11 => some (0, s11)) := by
    unfold Calls_enter
    rw [g_le_s, show (2000000 + (j : Int)) - 2000000 = j by omega, closeC hs b hq, g_bi_s, show (j : Int) + 1 = ((j + 1 : Nat) : Int) by omega, sk, g_bi_s, w_nat (show q < 2147483648 by omega), w_nat (show skp (m 51) (q - (j + 1)) (j + 1) < 2147483648 by omega)]
  rw [eC]
  by_cases bl : (q : Int) ≤ (skp (m 51) (q - (j + 1)) (j + 1) : Int)
  · rw [if_pos bl]
    refine ⟨q, c, m1, hq, b, rfl, eM, ?_, fC_rf _ _, fm1⟩
    obtain ⟨T, hT, hT2⟩ : ∃ T : Nat, (m1 58 D = -1 ∧ T = 0 ∨ m1 58 D = (T : Int) + 1) ∧ T ≤ 1000000 := by
      rw [y55.2.2.2.1]
      rcases ht with ⟨-, x⟩ | ⟨x, y, z⟩
      · exact ⟨0, Or.inl ⟨x, rfl⟩, by omega⟩
      · exact ⟨(t' - 1).toNat, Or.inr (by omega), by omega⟩
    obtain ⟨x', p1, p2, p3, p4⟩ := blank_pop (m := m) hL (fun i hi => hs.vw hi) (D := D) (z := j + 1) (b := q) (by omega) (by omega) (by omega) (by omega) T m1 m51 y55.2.2.2.2 y55.1 y55.2.2.1 y55.2.1 hT hT2
    have ux : CU L D c x' := by
      refine ⟨u1, u2, p2, fun i hi => CF_congr rfl rfl rfl rfl ?_ ?_ ?_ ?_ ?_ (u4 i hi)⟩
      · rw [(p3 i hi).1, (o55 i (by omega)).1]
      · rw [p4 56 i rfl, (o55 i (by omega)).2.1]
      · rw [p4 57 i rfl, (o55 i (by omega)).2.2.1]
      · rw [(p3 i hi).2, (o55 i (by omega)).2.2.2]
      · rw [show x' 51 = m1 51 from funext fun a => p4 51 a rfl, m51]
    have hsx : JS L c x' := JS_congr rfl rfl rfl (p4 49 4 rfl) (funext fun a => p4 51 a rfl) hs1
    intro v
    obtain ⟨c2, m2, p, k1, k2, k3, k4, k5⟩ := settle_both (JS_5 (v := v) hsx) (CU_5 (v := v) ux)
    have e1 := p1 (1000000000000 - T - 24 + 23)
    rw [show 1000000000000 - T - 24 + 23 + T + 1 = gFu by show _ = 1000000000000; omega, k2] at e1
    exact ⟨c2, m2, p, k1, e1, k3, k4, fM_tr p4 k5⟩
  · rw [if_neg bl]
    obtain ⟨c1, hc1⟩ : ∃ x, x = g_up (g_up (g_up (g_up (g_up c 10 4 ((D : Int) - 1 + 1)) 11 D ((j + 1 : Nat) : Int)) 12 D ((j + 1 : Nat) : Int)) 13 D q) 14 D t := ⟨_, rfl⟩
    have fc1 : fC nC c c1 := by
      rw [hc1]
      (iterate 5 refine fC_tr ?_ (fC_up rfl))
      exact fC_rf _ _
    have wD : w32 ((D : Int) - 1 + 1) = D := by rw [show (D : Int) - 1 + 1 = D by omega]; exact w_nat hD2
    have eP : Calls_push ((j + 1 : Nat) : Int) q t c = some (0, c1) := by
      unfold Calls_push
      rw [u2, w32_id (z := (D : Int) - 1) (by omega) (by omega), if_neg (by omega), g_le_s, up_y, wD, if_pos bD1, g_le_s, g_up_ne (by decide), up_y, wD, if_pos bD1, g_le_s, g_up_ne (by decide), g_up_ne (by decide), up_y, wD, if_pos bD1, g_le_s, g_up_ne (by decide), g_up_ne (by decide), g_up_ne (by decide), up_y, wD, if_pos bD1, g_le_s, Int.toNat_natCast, ← hc1]
    clear wD
    have c55 : ∀ i, i ≠ D → c1 11 i = c 11 i ∧ c1 12 i = c 12 i ∧ c1 13 i = c 13 i ∧ c1 14 i = c 14 i := by
      intro i hi
      rw [hc1]
      simp (disch := first | decide | omega) only [g_up_ne, up_n]
      exact ⟨trivial, trivial, trivial, trivial⟩
    have d55 : c1 11 D = ((j + 1 : Nat) : Int) ∧ c1 12 D = ((j + 1 : Nat) : Int) ∧ c1 13 D = q ∧ c1 14 D = t ∧ c1 10 4 = (D : Int) - 1 + 1 := by
      rw [hc1]
      simp (disch := decide) only [g_up_ne, up_y]
      exact ⟨trivial, trivial, trivial, trivial, trivial⟩
    have hsx : JS L c1 m1 := JS_congr (by rw [fc1 6 rfl]) (fc1 7 rfl) (fc1 8 rfl) rfl rfl hs1
    have ux : CU L (D + 1) c1 m1 := by
      refine ⟨by omega, by rw [d55.2.2.2.2]; omega, by rw [y55.2.2.2.2]; rfl, fun i hi => ?_⟩
      by_cases e : i = D
      · subst e
        refine ⟨j + 1, j + 1, q, by rw [m51]; exact FR_brc b hq, d55.1, y55.1, d55.2.1, y55.2.2.1, d55.2.2.1, y55.2.1, ?_⟩
        rw [d55.2.2.2.1, y55.2.2.2.1]
        rcases ht with x | ⟨x, y, z⟩
        · exact Or.inl x
        · refine Or.inr ⟨x, by omega, by omega, skp (m 51) (q - (j + 1)) (j + 1), sl.1, by omega, ?_⟩
          rw [m51]
          exact skp_at _ _ _ (by omega)
      · obtain ⟨a1, a2, a3, a4⟩ := c55 i e
        obtain ⟨b1, b2, b3, b4⟩ := o55 i e
        exact CF_congr a1 a2 a3 a4 b1 b2 b3 b4 m51 (u4 i (by omega))
    refine ⟨q, c1, m1, hq, b, ?_, eM, px_of hsx ux, fc1, fm1⟩
    rw [eP, g_bi_s]
/-- what remains to say once a procedure has been entered -/
theorem do_enter (hs : JS L c m) (hu : CU L D c m) (hv : JV L n c m) (hW : JW c m) (hm : JM l c m) (hp : JP s c m) (hg : JG k c m) (hz : ∀ j, j < 64 → c 17 j = 0) {e : Nat} (he : e ≤ n) (hD : D < 21) {j : Nat} (hj : j < L) (hb : m 51 j = 123) {t t' : Int} (ht : (t = 0 ∧ t' = -1) ∨ (t = t' ∧ 1 ≤ t ∧ t ≤ 1000000)) : ∃ (q : Nat) (c' m' : gS), Calls_enter (2000000 + (j : Int)) t (g_up c 18 1 ((n - e : Nat) : Int)) = some (0, c') ∧ M_closing j (g_up m 49 13 ((n - e : Nat) : Int)) = some ((q : Int), g_up m 49 13 ((n - e : Nat) : Int)) ∧ M_enter ((j : Int) + 1) q t' (g_up m 49 13 ((n - e : Nat) : Int)) = some (0, m') ∧ DO L c m c' m' := by
  have f1 : fC vC c (g_up c 18 1 ((n - e : Nat) : Int)) := fC_up rfl
  have f2 : fM vM m (g_up m 49 13 ((n - e : Nat) : Int)) := fM_up rfl
  obtain ⟨d1, d2, d3, d4, d5⟩ := do_stack hs hu hW hm hp hg hz (JV_drop hv he) f1 f2
  have hu1 := CU_fr (vC_o f1) (vM_o f2) hu
  obtain ⟨q, c', m', e1, e2, e3, e4, e5, e6, e7⟩ := enter_both d2 hu1 hD hj (by rw [g_up_ne (by decide)]; exact hb) ht
  exact ⟨q, c', m', e3, closeM d2 e2 e1, e4, RJ_n e6 e7 d1, JS_fr (fC_nb e6) (fM_nb e7) d2, e5, fC_tr d4 (fC_nb e6), fM_tr d5 (fM_nb e7)⟩
theorem do_control (hs : JS L c m) (hu : CU L D c m) (hv : JV L n c m) (hW : JW c m) (hm : JM l c m) (hp : JP s c m) (hg : JG k c m) (hz : ∀ j, j < 64 → c 17 j = 0) (h : in_a w) (ok : okW w L n l s k D c m) (a : Int) : ∃ c' m', Job_perform w a c = some (0, c') ∧ M_do a w m = some (0, m') ∧ DO L c m c' m' := by
  obtain ⟨o1, o2, o3, o4, o5, o6⟩ := ok
  obtain ⟨v0, v1, v2, v3, v4⟩ := id hv
  rcases h with rfl | rfl | rfl
  · have hd : nd 63 = 3 := by decide
    have hp2 : pcn 63 = 2 := by decide
    have k0 := o2 (by decide) (by decide) (by decide) 0 (by omega)
    have k1 := o2 (by decide) (by decide) (by decide) 1 (by omega)
    have k2 := o2 (by decide) (by decide) (by decide) 2 (by omega)
    rw [hp2] at k0 k1 k2
    rw [if_pos (by decide)] at k0 k1
    rw [if_neg (by decide)] at k2
    obtain ⟨j0, a1, a2, a3, a4⟩ := (v4 (n - 1 - 0) (by omega)).prc k0
    obtain ⟨j1, b1, b2, b3, b4⟩ := (v4 (n - 1 - 1) (by omega)).prc k1
    obtain ⟨x1, x2, x3⟩ := at_num hv (k := 2) (by omega) k2
    have hD := o5.2.1 rfl
    have eC : Job_control 63 c = if m 52 (n - 1 - 2) = 0 then Job_control_76 (2000000 + (j0 : Int)) (g_up c 18 1 ((n - 3 : Nat) : Int)) else Job_control_76 (2000000 + (j1 : Int)) (g_up c 18 1 ((n - 3 : Nat) : Int)) := by
      unfold Job_control
      rw [peek_in v2 v1 0 0 rfl (by omega), g_bi_s, peek_in v2 v1 1 1 rfl (by omega), g_bi_s, peek_in v2 v1 2 2 rfl (by omega), g_bi_s, if_neg (by decide), if_pos (by decide), drop_is v2 v1 3 3 rfl (by omega), g_bi_s, a2, b2, x1, w32_id (by omega) (by omega)]
    have eM : M_reckon 63 m = if m 52 (n - 1 - 2) = 0 then M_reckon_27 j0 m else M_reckon_27 j1 m := by
      unfold M_reckon
      rw [if_pos (by decide), num_in v3 v1 2 2 rfl (by omega), g_bi_s, num_in v3 v1 0 0 rfl (by omega), g_bi_s, num_in v3 v1 1 1 rfl (by omega), g_bi_s, a1, b1, w32_id (by omega) (by omega)]
    have key : ∀ j : Nat, j < L → m 51 j = 123 → ∃ c' m', Job_control_76 (2000000 + (j : Int)) (g_up c 18 1 ((n - 3 : Nat) : Int)) = some (0, c') ∧ M_reckon_27 j m = some (0, m') ∧ DO L c m c' m' := by
      intro j hj hb
      obtain ⟨q, c', m', r1, r2, r3, r4⟩ := do_enter hs hu hv hW hm hp hg hz (e := 3) (by omega) hD hj hb (t := 0) (t' := -1) (Or.inl ⟨rfl, rfl⟩)
      refine ⟨c', m', ?_, ?_, r4⟩
      · unfold Job_control_76
        rw [r1, g_bi_s]
      · unfold M_reckon_27
        rw [v3, show (n : Int) - 3 = ((n - 3 : Nat) : Int) by omega, g_le_s, r2, g_bi_s, r3, g_bi_s]
    by_cases z : m 52 (n - 1 - 2) = 0
    · rw [if_pos z] at eC eM
      obtain ⟨c', m', r1, r2, r3⟩ := key j0 a3 a4
      exact ⟨c', m', pf_ctl (by decide) a (eC.trans r1), md_rck (by decide) a (eM.trans r2), r3⟩
    · rw [if_neg z] at eC eM
      obtain ⟨c', m', r1, r2, r3⟩ := key j1 b3 b4
      exact ⟨c', m', pf_ctl (by decide) a (eC.trans r1), md_rck (by decide) a (eM.trans r2), r3⟩
  · have hd : nd 82 = 2 := by decide
    have hp1 : pcn 82 = 1 := by decide
    have k0 := o2 (by decide) (by decide) (by decide) 0 (by omega)
    have k1 := o2 (by decide) (by decide) (by decide) 1 (by omega)
    rw [hp1] at k0 k1
    rw [if_pos (by decide)] at k0
    rw [if_neg (by decide)] at k1
    obtain ⟨j0, a1, a2, a3, a4⟩ := (v4 (n - 1 - 0) (by omega)).prc k0
    have x := (v4 (n - 1 - 1) (by omega)).num k1
    obtain ⟨z, pz⟩ := peek_any v2 v1 2 2 rfl (by omega)
    have eC : Job_control 82 c = if m 52 (n - 1 - 1) < 1 then some (0, g_up c 18 1 ((n - 2 : Nat) : Int)) else g_bi (Calls_enter (2000000 + (j0 : Int)) (m 52 (n - 1 - 1)) (g_up c 18 1 ((n - 2 : Nat) : Int))) (fun _ s17 => some (0, s17)) := by
      unfold Job_control
      rw [peek_in v2 v1 0 0 rfl (by omega), g_bi_s, peek_in v2 v1 1 1 rfl (by omega), g_bi_s, pz, g_bi_s, if_neg (by decide), if_neg (by decide), drop_is v2 v1 2 2 rfl (by omega), g_bi_s, a2, x.1, w32_id (by omega) (by omega)]
    have eM : M_order 82 m = g_bi (if m 52 (n - 1 - 1) ≤ 0 then some ((0 : Int), g_up m 49 13 ((n - 2 : Nat) : Int)) else g_bi (M_closing j0 (g_up m 49 13 ((n - 2 : Nat) : Int))) (fun r10 s11 => g_bi (M_enter ((j0 : Int) + 1) r10 (m 52 (n - 1 - 1)) s11) fun _ s14 => some (0, s14))) (fun _ s85 => some (0, s85)) := by
      unfold M_order
      simp (decide := true) only [if_true, if_false]
      unfold M_repeat
      rw [num_in v3 v1 0 0 rfl (by omega), g_bi_s, num_in v3 v1 1 1 rfl (by omega), g_bi_s, g_le_s, v3, show (n : Int) - 2 = ((n - 2 : Nat) : Int) by omega, a1, w32_id (by omega) (by omega)]
    by_cases y : m 52 (n - 1 - 1) < 1
    · rw [if_pos y] at eC
      rw [if_pos (show m 52 (n - 1 - 1) ≤ 0 by omega), g_bi_s] at eM
      exact ⟨_, _, pf_ctl (by decide) a eC, md_ord (by decide) a eM, do_stack hs hu hW hm hp hg hz (JV_drop hv (k := 2) (by omega)) (fC_up rfl) (fM_up rfl)⟩
    · rw [if_neg y] at eC
      rw [if_neg (show ¬ m 52 (n - 1 - 1) ≤ 0 by omega)] at eM
      have hD := o5.2.2 rfl (by omega)
      obtain ⟨q, c', m', r1, r2, r3, r4⟩ := do_enter hs hu hv hW hm hp hg hz (e := 2) (by omega) hD a3 a4 (t := m 52 (n - 1 - 1)) (t' := m 52 (n - 1 - 1)) (Or.inr ⟨rfl, by omega, by omega⟩)
      rw [r1, g_bi_s] at eC
      rw [r2, g_bi_s, r3, g_bi_s, g_bi_s] at eM
      exact ⟨c', m', pf_ctl (by decide) a eC, md_ord (by decide) a eM, r4⟩
  · have hr := o6.2.2.2.2.2.2.2.2.2 rfl
    obtain ⟨x0, p0⟩ := peek_any v2 v1 0 0 rfl (by omega)
    obtain ⟨x1, p1⟩ := peek_any v2 v1 1 1 rfl (by omega)
    obtain ⟨x2, p2⟩ := peek_any v2 v1 2 2 rfl (by omega)
    obtain ⟨u1, u2, u3, u4⟩ := id hu
    rcases loop_both hu with ⟨-, y⟩ | ⟨i, i1, i2, i3, i4⟩
    · rw [y] at hr
      have := congrArg Prod.fst (Option.some.inj hr)
      cases this
    · have f1 : fC nC c (g_up c 10 4 ((i : Int) - 1)) := fC_up rfl
      have f2 : fM nM m (g_up m 49 17 i) := fM_up rfl
      have hs1 := JS_fr (fC_nb f1) (fM_nb f2) hs
      have ux : CU L i (g_up c 10 4 ((i : Int) - 1)) (g_up m 49 17 i) := by
        refine ⟨by omega, up_y, up_y, fun e he => CF_congr ?_ ?_ ?_ ?_ ?_ ?_ ?_ ?_ ?_ (u4 e (by omega))⟩ <;> rw [g_up_ne (by decide)]
      refine ⟨_, _, pf_ctl (by decide) a (c' := g_up c 10 4 ((i : Int) - 1)) ?_, md_ord (by decide) a (m' := g_up m 49 17 i) ?_, RJ_n f1 f2 ⟨⟨n, hv⟩, hW, ⟨l, hm⟩, ⟨s, hp⟩, ⟨k, hg⟩, hz⟩, hs1, px_of hs1 ux, fC_nb f1, fM_nb f2⟩
      · unfold Job_control Calls_leaveLoop
        rw [p0, g_bi_s, p1, g_bi_s, p2, g_bi_s, if_pos (by decide), i2, g_bi_s, if_neg (show ¬ w32 (i : Int) = -1 by rw [w_nat (by omega)]; omega), g_le_s, g_bi_s]
      · unfold M_order
        simp (decide := true) only [if_true, if_false]
        rw [i4, g_bi_s]
/-- every word -/
theorem do_all (hs : JS L c m) (hu : CU L D c m) (hv : JV L n c m) (hW : JW c m) (hm : JM l c m) (hp : JP s c m) (hg : JG k c m) (hz : ∀ j, j < 64 → c 17 j = 0) {p : Nat} (hpL : p < L) (h32 : m 51 p ≠ 32) (h125 : m 51 p ≠ 125) (ok : okW (m 51 p) L n l s k D c m) : ∃ c' m', Job_perform (m 51 p) p c = some (0, c') ∧ M_do p (m 51 p) m = some (0, m') ∧ DO L c m c' m' := by
  have hw : isW (m 51 p) := by
    rcases hs.2.2.1.word hpL with x | x
    · exact absurd x h32
    · exact x
  have sp : isD (m 51 p) ∨ (97 ≤ m 51 p ∧ m 51 p ≤ 122) ∨ m 51 p = 123 ∨ m 51 p = 58 ∨ in_a (m 51 p) ∨ in_b (m 51 p) ∨ in_c (m 51 p) ∨ isK (m 51 p) := by
    clear ok hs hu hv hW hm hp hg hz
    omega
  rcases sp with x | x | x | x | x | x | x | x
  · exact do_digit hs hu hv hW hm hp hg hz hpL x (ok.2.2.2.2.1.1 (Or.inl x))
  · exact do_letter hs hu hv hW hm hp hg hz x.1 x.2 (ok.2.2.2.2.1.1 (Or.inr (Or.inl x))) p
  · exact do_brace hs hu hv hW hm hp hg hz hpL x (ok.2.2.2.2.1.1 (Or.inr (Or.inr (Or.inl x))))
  · have hd : nd (m 51 p) = 1 := by rw [x]; decide
    have hp0 : pcn (m 51 p) = 0 := by rw [x]; decide
    have k0 := ok.2.1 (by omega) (by omega) (by omega) 0 (by omega)
    rw [hp0, if_neg (by decide), show n - 1 - 0 = n - 1 by omega] at k0
    have := ok.1
    exact do_name hs hu hv hW hm hp hg hz hpL x (by omega) k0
  · exact do_control hs hu hv hW hm hp hg hz x ok p
  · exact do_draw hs hu hv hW hm hp hg hz x ok p
  · exact do_use hs hu hv hW hm hp hg hz x ok p
  · exact do_reck hs hu hv hW hm hp hg hz x ok p
end CT

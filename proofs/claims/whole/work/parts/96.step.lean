/-! one step -/
def JN (c m : gS) : Prop := c 5 9 = m 49 6 ∧ c 5 10 = m 49 7 ∧ c 5 11 = m 49 9 ∧ c 5 12 = m 49 10 ∧ (0 ≤ m 49 6 ∧ m 49 6 ≤ 12) ∧ (0 ≤ m 49 7 ∧ m 49 7 ≤ 300) ∧ (0 ≤ m 49 9 ∧ m 49 9 ≤ m 49 10 ∧ m 49 10 ≤ 20000)
/-- under way, at the word p; -1: no word is left -/
def LSt (L : Nat) (c m : gS) (p : Int) : Prop := JS L c m ∧ RJ L c m ∧ CR L c m p ∧ JN c m ∧ m 49 5 = 1 ∧ c 5 8 = (if p = -1 then 2 else 1) ∧ m 49 6 = 0 ∧ m 49 7 = 0
def stC (q : Nat) : Bool := decide (q = 5) || (decide (10 ≤ q) && decide (q ≤ 36))
def stM (q k : Nat) : Bool := (decide (q = 49) && (decide (k = 8) || decide (k = 9) || decide (k = 13) || decide (k = 17) || (decide (22 ≤ k) && decide (k ≤ 28)) || decide (k = 32) || decide (k = 36))) || (decide (52 ≤ q) && decide (q ≤ 65))
section SP
variable {L n l s k D : Nat} {c m c' m' : gS} {w : Int}
theorem fC_bx (f : fC bC c c') : fC stC c c' := fC_mono (fun q h => by
  unfold bC at h
  unfold stC
  simp only [Bool.or_eq_true, Bool.and_eq_true, decide_eq_true_eq] at h ⊢
  omega) f
theorem fM_bx (f : fM bM m m') : fM stM m m' := fM_mono (fun q j h => by
  unfold bM at h
  unfold stM
  simp only [Bool.or_eq_true, Bool.and_eq_true, decide_eq_true_eq] at h ⊢
  omega) f
theorem fC_rx (f : fC rC c c') : fC stC c c' := fC_mono (fun q h => by
  unfold rC at h
  unfold stC
  simp only [Bool.or_eq_true, Bool.and_eq_true, decide_eq_true_eq] at h ⊢
  omega) f
theorem fM_6x (f : fM i65 m m') : fM stM m m' := fM_mono (fun q j h => by
  unfold i65 at h
  unfold stM
  simp only [Bool.or_eq_true, Bool.and_eq_true, decide_eq_true_eq] at h ⊢
  omega) f
theorem fC_ex (f : fC eC c c') : fC stC c c' := fC_mono (fun q h => by
  unfold eC at h
  unfold stC
  simp only [Bool.or_eq_true, Bool.and_eq_true, decide_eq_true_eq] at h ⊢
  omega) f
theorem fM_ex (f : fM eM m m') : fM stM m m' := fM_mono (fun q j h => by
  unfold eM at h
  unfold stM
  simp only [Bool.or_eq_true, Bool.and_eq_true, decide_eq_true_eq] at h ⊢
  omega) f
/-- what the words look at is the same -/
def sE (q : Nat) : Bool := decide (q = 5) || decide (q = 11) || decide (q = 16) || decide (q = 17)
def sF (q k : Nat) : Bool := (decide (q = 49) && decide (k = 9)) || decide (q = 55) || decide (q = 65)
theorem okW_tr (hu : CU L D c m) (hu' : CU L D c' m') (f1 : c' 16 = c 16) (f2 : fM sF m m') (h : okW w L n l s k D c m) : okW w L n l s k D c' m' := by
  have e52 : m' 52 = m 52 := funext fun i => f2 52 i rfl
  have e54 : m' 54 = m 54 := funext fun i => f2 54 i rfl
  have e62 : m' 62 = m 62 := funext fun i => f2 62 i rfl
  have e59 : m' 59 = m 59 := funext fun i => f2 59 i rfl
  have e60 : m' 60 = m 60 := funext fun i => f2 60 i rfl
  have e61 : m' 61 = m 61 := funext fun i => f2 61 i rfl
  have e63 : m' 63 = m 63 := funext fun i => f2 63 i rfl
  have e28 : m' 49 28 = m 49 28 := f2 49 28 rfl
  have e36 : m' 49 36 = m 49 36 := f2 49 36 rfl
  obtain ⟨o1, o2, o3, o4, o5, o6⟩ := h
  refine ⟨o1, by rw [e54]; exact o2, ?_, by rw [e52]; exact o4, ?_, ?_⟩
  · unfold okF nr pX pY at *
    rw [e52, e62]
    exact o3
  · unfold okR at *
    rw [e52]
    exact o5
  · obtain ⟨q1, q2, q3, q4, q5, q6, q7, q8, q9, q10⟩ := o6
    refine ⟨q1, q2, by rw [e28]; exact q3, by rw [e28]; exact q4, ?_, ?_, q7, q8, q9, fun hw => ?_⟩
    · unfold TRd at *
      rw [e59, e60, e61, e63, e36, f1]
      exact q5
    · unfold TRd at *
      rw [e59, e60, e61, e63, e36, f1]
      exact q6
    · rcases loop_both hu' with ⟨x, y⟩ | ⟨i, i1, i2, i3, i4⟩
      · exfalso
        have h1 := q10 hw
        have a := rep_loop hu D 0 (1000000000000 - D - 1) (by omega)
        have a' := rep_loop hu' D 0 (1000000000000 - D - 1) (by omega)
        have hD := hu.1
        rw [show 1000000000000 - D - 1 + D + 1 = gFu by show _ = 1000000000000; omega] at a a'
        by_cases z : ∃ i, 0 ≤ i ∧ i < D ∧ m 58 i ≠ -1
        · have z' : ∃ i, 0 ≤ i ∧ i < D ∧ m' 58 i ≠ -1 := by
            obtain ⟨i, i1, i2, i3⟩ := z
            exact ⟨i, i1, i2, by rw [f2 58 i rfl]; exact i3⟩
          have := (a'.2 z').symm.trans y
          have := congrArg Prod.fst (Option.some.inj this)
          cases this
        · have z' : ∀ i, 0 ≤ i → i < D → m 58 i = -1 := fun i i1 i2 => Classical.byContradiction fun e => z ⟨i, i1, i2, e⟩
          have := (a.1 z').symm.trans h1
          have := congrArg Prod.fst (Option.some.inj this)
          cases this
      · exact i3
theorem RJ_s (f1 : fC sE c c') (f2 : fM sF m m') (hz : ∀ j, j < 64 → c' 17 j = 0) (hv : JV L n c m) (hW : JW c m) (hm : JM l c m) (hp : JP s c m) (hg : JG k c m) : JV L n c' m' ∧ JW c' m' ∧ JM l c' m' ∧ JP s c' m' ∧ JG k c' m' := by
  refine ⟨JV_congr (by rw [f1 18 rfl]) (f1 19 rfl) (f2 49 13 rfl) (funext fun i => f2 52 i rfl) (funext fun i => f2 54 i rfl) (funext fun i => f2 51 i rfl) hv, JW_congr (f1 20 rfl) (funext fun i => f2 53 i rfl) hW, JM_congr (by rw [f1 21 rfl]) (f1 22 rfl) (f1 23 rfl) (f1 24 rfl) (f1 25 rfl) (f1 26 rfl) (f1 27 rfl) (f2 49 32 rfl) (funext fun i => f2 62 i rfl) (funext fun i => f2 63 i rfl) hm, JP_congr (f1 28 rfl) (f1 29 rfl) (f1 30 rfl) (f1 31 rfl) (fun j a b => f2 49 j ?_) (funext fun i => f2 59 i rfl) (funext fun i => f2 60 i rfl) (funext fun i => f2 61 i rfl) hp, JG_congr (f1 34 rfl) (f1 35 rfl) (f1 36 rfl) (f2 49 8 rfl) (f2 49 36 rfl) (funext fun i => f2 64 i rfl) hg⟩
  unfold sF
  rw [decide_eq_false (show ¬ j = 9 by omega)]
  rfl
theorem fC_sx (f : fC sE c c') : fC stC c c' := fC_mono (fun q h => by
  unfold sE at h
  unfold stC
  simp only [Bool.or_eq_true, Bool.and_eq_true, decide_eq_true_eq] at h ⊢
  omega) f
theorem fM_sx (f : fM sF m m') : fM stM m m' := fM_mono (fun q j h => by
  unfold sF at h
  unfold stM
  simp only [Bool.or_eq_true, Bool.and_eq_true, decide_eq_true_eq] at h ⊢
  omega) f
theorem fC_rs (f : fC rC c c') : fC sE c c' := fC_mono (fun q h => by
  unfold rC at h
  unfold sE
  simp only [Bool.or_eq_true, Bool.and_eq_true, decide_eq_true_eq] at h ⊢
  omega) f
theorem fM_6s (f : fM i65 m m') : fM sF m m' := fM_mono (fun q j h => by
  unfold i65 at h
  unfold sF
  simp only [Bool.or_eq_true, Bool.and_eq_true, decide_eq_true_eq] at h ⊢
  omega) f
/-- a step of both: an error ends it, or the word is done -/
theorem step_both {p : Int} (h : LSt L c m p) (hp1 : p ≠ -1) : ∃ q : Nat, p = q ∧ q < 300 ∧ ((∃ (z e : Int) (c' m1 : gS), (0 < z ∧ z ≤ 12) ∧ M_errorOf (m 51 q) m = some (e, m1) ∧ (0 ≤ e ∧ e ≤ 11) ∧ (e ≠ 0 → z = e) ∧ (e = 0 → z = 12 ∧ m 49 9 = m 49 10) ∧ Job_step c = some (0, c') ∧ c' 5 8 = 2 ∧ c' 5 9 = z ∧ c' 5 10 = q ∧ c' 5 11 = m 49 9 ∧ c' 5 12 = m 49 10 ∧ JS L c' m1 ∧ RJ L c' m1 ∧ fC stC c c' ∧ fM i65 m m1) ∨ ∃ (c' m2 m' : gS) (p' : Int), m 49 9 < m 49 10 ∧ Job_step c = some (0, c') ∧ M_step q m = some (0, m2) ∧ m2 49 5 = 1 ∧ M_next m2 = some (p', m') ∧ LSt L c' m' p' ∧ fC stC c c' ∧ fM stM m m') := by
  obtain ⟨hs, ⟨⟨n, hv⟩, hW, ⟨l, hm⟩, ⟨s, hp⟩, ⟨k, hg⟩, hz⟩, ⟨D, hu, hcr⟩, ⟨n1, n2, n3, n4, n5, n6, n7⟩, h5, h8, h6, h7⟩ := h
  have g := hs.2.2.1
  have hL := g.le
  rcases hcr with ⟨-, x⟩ | ⟨hD0, q, b, rfl, r1, r2, r3, r4, r5, r6⟩
  · exact absurd x hp1
  rw [if_neg hp1] at h8
  obtain ⟨u1, u2, u3, u4⟩ := id hu
  obtain ⟨a, z0, b', fr, t1, t2, t3, t4, t5, t6, t7⟩ := u4 (D - 1) (by omega)
  have ea : a = q := by omega
  have eb : b' = b := by omega
  subst ea eb
  have hqL : a < L := by omega
  have h125 := fr.no125 r4
  have hch := g.ch a hqL
  have hisW : isW (m 51 a) := by
    rcases g.word hqL with y | y
    · exact absurd y r6
    · exact y
  refine ⟨a, rfl, by omega, ?_⟩
  obtain ⟨e, c1, m1, e1, e2, e3, e4, e5, e6, e7⟩ := err_both hch.1 hch.2 hisW hv hm hp hg hu hz
  have c15 : c1 5 = c 5 := e6 5 rfl
  have bD : 0 ≤ (D : Int) - 1 ∧ (D : Int) - 1 < 21 := ⟨by omega, by omega⟩
  have tD : ((D : Int) - 1).toNat = D - 1 := by omega
  have wl : -2147483648 ≤ (D : Int) - 1 ∧ (D : Int) - 1 < 2147483648 := ⟨by omega, by omega⟩
  have eFE : FE c1 e = if e = 0 then (if m 49 9 < m 49 10 then 0 else 12) else e := by
    unfold FE
    rw [c15, n3, n4, w32_id (z := m 49 9) (by omega) (by omega), w32_id (z := m 49 10) (by omega) (by omega)]
  have eP : Calls_place c = some ((a : Int), c) := by
    unfold Calls_place
    rw [u2, w32_id wl.1 wl.2, if_pos bD.1, if_pos bD, tD, r1]
  obtain ⟨z, hz0⟩ : ∃ z, z = FE c1 e := ⟨_, rfl⟩
  have zb : 0 ≤ z ∧ z ≤ 12 := by
    rw [hz0, eFE]
    split
    · split <;> omega
    · omega
  have wz : w32 z = z := w32_id (by omega) (by omega)
  have eS : Job_step c = if z = 0 then (g_bi (Text_behind a (g_up c1 5 9 z)) fun r13 s14 => g_bi (Calls_goTo r13 s14) fun _ s17 => g_bi (Job_perform (m 51 a) a s17) fun _ s20 => g_le (g_up s20 5 11 ((s20 5 11) + 1)) fun s22 => g_bi (Calls_settle s22) fun _ s25 => g_bi (Job_endIfOver s25) fun _ s28 => (some (0, s28))) else some (0, g_up (g_up (g_up c1 5 9 z) 5 10 a) 5 8 2) := by
    unfold Job_step
    rw [eP, g_bi_s, sgn hs hqL, g_bi_s, e1, g_bi_s, g_le_s, up_y, ← hz0, wz]
    rfl
  clear wz
  have hs1 : JS L c1 m1 := JS_congr (by rw [e6 6 rfl]) (e6 7 rfl) (e6 8 rfl) (e7 49 4 rfl) (funext fun i => e7 51 i rfl) hs
  by_cases zz : z = 0
  · -- no error
    have e0 : e = 0 ∧ m 49 9 < m 49 10 := by
      rw [hz0, eFE] at zz
      by_cases y : e = 0
      · rw [if_pos y] at zz
        by_cases y2 : m 49 9 < m 49 10
        · exact ⟨y, y2⟩
        · rw [if_neg y2] at zz; cases zz
      · rw [if_neg y] at zz; exact absurd zz y
    refine Or.inr ?_
    rw [if_pos zz] at eS
    have hs2 : JS L (g_up c1 5 9 z) m1 := JS_congr (by rw [g_up_ne (by decide)]) (g_up_ne (by decide)) (g_up_ne (by decide)) rfl rfl hs1
    have hs2m : JS L (g_up c1 5 9 z) (g_up m1 49 9 (m 49 9 + 1)) := JS_congr rfl rfl rfl (up_n (by decide)) (g_up_ne (by decide)) hs2
    have m151 : m1 51 = m 51 := funext fun i => e7 51 i rfl
    obtain ⟨x, x1, x2, x3, x4, x5⟩ := word_end hs2m hqL
    have m251 : g_up m1 49 9 (m 49 9 + 1) 51 = m 51 := by rw [g_up_ne (by decide)]; exact m151
    obtain ⟨c3, hc3⟩ : ∃ y, y = g_up (g_up c1 5 9 z) 11 (D - 1) (x : Int) := ⟨_, rfl⟩
    obtain ⟨m3, hm3⟩ : ∃ y, y = g_up (g_up m1 49 9 (m 49 9 + 1)) 55 (D - 1) (x : Int) := ⟨_, rfl⟩
    have f3 : fC sE c c3 := by rw [hc3]; exact fC_tr (fC_rs e6) (fC_tr (fC_up rfl) (fC_up rfl))
    have g3 : fM sF m m3 := by rw [hm3]; exact fM_tr (fM_6s e7) (fM_tr (fM_up rfl) (fM_up rfl))
    have z3 : ∀ j, j < 64 → c3 17 j = 0 := fun j hj => by rw [hc3, g_up_ne (by decide), g_up_ne (by decide)]; exact e5 j hj
    have hs3 : JS L c3 m3 := JS_congr (by rw [f3 6 rfl]) (f3 7 rfl) (f3 8 rfl) (g3 49 4 rfl) (funext fun i => g3 51 i rfl) hs
    have m351 : m3 51 = m 51 := funext fun i => g3 51 i rfl
    have fr3 : FR (m 51) L z0 x b' := by rw [← m251]; exact x5 z0 b' (by rw [m251]; exact fr) r4
    have c11 : ∀ i, c3 11 i = if i = D - 1 then (x : Int) else c 11 i := fun i => by
      rw [hc3, g_up_at, g_up_ne (by decide), e6 11 rfl]
      by_cases y : i = D - 1
      · rw [if_pos ⟨rfl, y⟩, if_pos y]
      · rw [if_neg (fun v => y v.2), if_neg y]
    have m55 : ∀ i, m3 55 i = if i = D - 1 then (x : Int) else m 55 i := fun i => by
      rw [hm3, g_up_at, g_up_ne (by decide), e7 55 i rfl]
      by_cases y : i = D - 1
      · rw [if_pos ⟨rfl, y⟩, if_pos y]
      · rw [if_neg (fun v => y v.2), if_neg y]
    have hu3 : CU L D c3 m3 := by
      refine ⟨u1, by rw [f3 10 rfl]; exact u2, by rw [g3 49 17 rfl]; exact u3, fun i hi => ?_⟩
      by_cases y : i = D - 1
      · subst y
        refine ⟨x, z0, b', by rw [m351]; exact fr3, by rw [c11, if_pos rfl], by rw [m55, if_pos rfl], by rw [f3 12 rfl]; exact t3, by rw [g3 57 _ rfl]; exact t4, by rw [f3 13 rfl]; exact t5, by rw [g3 56 _ rfl]; exact t6, ?_⟩
        rw [f3 14 rfl, g3 58 _ rfl, m351]
        exact t7
      · exact CF_congr (by rw [c11, if_neg y]) (by rw [f3 12 rfl]) (by rw [f3 13 rfl]) (by rw [f3 14 rfl]) (by rw [m55, if_neg y]) (g3 56 i rfl) (g3 57 i rfl) (g3 58 i rfl) m351 (u4 i hi)
    obtain ⟨v3, w3, k3, p3, j3⟩ := RJ_s f3 g3 z3 hv hW hm hp hg
    have u1c : CU L D c1 m := ⟨u1, by rw [e6 10 rfl]; exact u2, u3, fun i hi => CF_congr (by rw [e6 11 rfl]) (by rw [e6 12 rfl]) (by rw [e6 13 rfl]) (by rw [e6 14 rfl]) rfl rfl rfl rfl rfl (u4 i hi)⟩
    have ok3 : okW (m3 51 a) L n l s k D c3 m3 := by
      rw [m351]
      exact okW_tr u1c hu3 (by rw [hc3, g_up_ne (by decide), g_up_ne (by decide)]) g3 (e4 e0.1)
    obtain ⟨c4, m4, d1, d2, d3, d4, d5, d6, d7⟩ := do_all hs3 hu3 v3 w3 k3 p3 j3 z3 hqL (by rw [m351]; exact r6) (by rw [m351]; exact h125) ok3
    rw [m351] at d1 d2
    have c45 : c4 5 = c3 5 := d6 5 rfl
    have c35 : ∀ i, c3 5 i = if i = 9 then z else c 5 i := fun i => by
      rw [hc3, g_up_ne (by decide), g_up_at, c15]
      by_cases y : i = 9
      · rw [if_pos ⟨rfl, y⟩, if_pos y]
      · rw [if_neg (fun v => y v.2), if_neg y]
    have c411 : c4 5 11 = m 49 9 := by rw [c45, c35, if_neg (by decide)]; exact n3
    obtain ⟨c6, m6, p', k1, k2, k4, k5, k6⟩ := d5 (m 49 9 + 1)
    have hs6 : JS L c6 m6 := by
      have f : fC stC c4 c6 := fC_tr (fC_up rfl) (fC_ex k5)
      exact JS_congr (by rw [f 6 rfl]) (f 7 rfl) (f 8 rfl) (k6 49 4 rfl) (funext fun i => k6 51 i rfl) d4
    have hr6 : RJ L c6 m6 := by
      obtain ⟨⟨n', a1⟩, a2, ⟨l', a3⟩, ⟨s', a4⟩, ⟨k', a5⟩, a6⟩ := d3
      have fe : fC (fun q => eC q || decide (q = 5)) c4 c6 := fC_tr (fC_up rfl) (fC_mono (fun q y => by rw [y, Bool.true_or]) k5)
      refine ⟨⟨n', JV_congr (by rw [fe 18 rfl]) (fe 19 rfl) (k6 49 13 rfl) (funext fun i => k6 52 i rfl) (funext fun i => k6 54 i rfl) (funext fun i => k6 51 i rfl) a1⟩, JW_congr (fe 20 rfl) (funext fun i => k6 53 i rfl) a2, ⟨l', JM_congr (by rw [fe 21 rfl]) (fe 22 rfl) (fe 23 rfl) (fe 24 rfl) (fe 25 rfl) (fe 26 rfl) (fe 27 rfl) (k6 49 32 rfl) (funext fun i => k6 62 i rfl) (funext fun i => k6 63 i rfl) a3⟩, ⟨s', JP_congr (fe 28 rfl) (fe 29 rfl) (fe 30 rfl) (fe 31 rfl) (fun j y1 y2 => k6 49 j (by unfold eM; rw [decide_eq_false (show ¬ j = 17 by omega)]; rfl)) (funext fun i => k6 59 i rfl) (funext fun i => k6 60 i rfl) (funext fun i => k6 61 i rfl) a4⟩, ⟨k', JG_congr (fe 34 rfl) (fe 35 rfl) (fe 36 rfl) (k6 49 8 rfl) (k6 49 36 rfl) (funext fun i => k6 64 i rfl) a5⟩, fun j hj => by rw [fe 17 rfl]; exact a6 j hj⟩
    have c65 : ∀ i, c6 5 i = if i = 11 then m 49 9 + 1 else c4 5 i := fun i => by
      rw [k5 5 rfl, g_up_at]
      by_cases y : i = 11
      · rw [if_pos ⟨rfl, y⟩, if_pos y]
      · rw [if_neg (fun v => y v.2), if_neg y]
    have num : c6 5 9 = 0 ∧ c6 5 10 = m 49 7 ∧ c6 5 11 = m 49 9 + 1 ∧ c6 5 12 = m 49 10 ∧ c6 5 8 = 1 := by
      rw [c65, c65, c65, c65, c65, c45, c35, c35, c35, c35, c35]
      exact ⟨zz, n2, rfl, n4, h8⟩
    have mm : m6 49 5 = 1 ∧ m6 49 6 = 0 ∧ m6 49 7 = 0 ∧ m6 49 9 = m 49 9 + 1 ∧ m6 49 10 = m 49 10 := by
      rw [k6 49 5 rfl, k6 49 6 rfl, k6 49 7 rfl, k6 49 9 rfl, k6 49 10 rfl, d7 49 5 rfl, d7 49 6 rfl, d7 49 7 rfl, d7 49 9 rfl, d7 49 10 rfl, g3 49 5 rfl, g3 49 6 rfl, g3 49 7 rfl, g3 49 10 rfl]
      refine ⟨h5, h6, h7, ?_, rfl⟩
      rw [hm3, g_up_ne (by decide), up_y]
    have eM : M_step a m = some (0, m4) := by
      unfold M_step
      have ba : (0 : Int) ≤ (a : Int) ∧ (a : Int) < 300 := ⟨by omega, by omega⟩
      have bD2 : 0 ≤ (D : Int) - 1 ∧ (D : Int) - 1 < 22 := ⟨by omega, by omega⟩
      rw [w_nat (show a < 2147483648 by omega), if_pos ba, g_le_s, Int.toNat_natCast, e2, g_bi_s, e0.1, if_pos (show w32 0 ≤ 0 by decide), e7 49 9 rfl, g_le_s, x4, g_bi_s, up_n (by decide), e7 49 17 rfl, u3, w32_id wl.1 wl.2, if_pos bD2, g_le_s, tD, show (a : Int) + ((x : Int) - a) = x by omega, ← hm3]
      exact d2
    have eC6 : ∀ c7 : gS, Job_endIfOver c6 = some (0, c7) → Job_step c = some (0, c7) := by
      intro c7 h7'
      rw [eS, x3, g_bi_s]
      unfold Calls_goTo
      rw [g_up_ne (show 10 ≠ 5 by decide), e6 10 rfl, u2, w32_id wl.1 wl.2, if_neg (by omega), if_pos bD, g_le_s, g_bi_s, tD, ← hc3, d1, g_bi_s, g_le_s, c411, k1, g_bi_s, h7', g_bi_s]
    have m45 : m4 49 5 = 1 := by rw [d7 49 5 rfl, g3 49 5 rfl]; exact h5
    have fX : fC stC c c6 := fC_tr (fC_sx f3) (fC_tr (fC_bx d6) (fC_tr (fC_up rfl) (fC_ex k5)))
    have gX : fM stM m m6 := fM_tr (fM_sx g3) (fM_tr (fM_bx d7) (fM_ex k6))
    obtain ⟨D6, q1, q2⟩ := id k4
    rcases q2 with ⟨y1, y2⟩ | ⟨y1, q', b6, y2, y3, y4, y5, y6, y7, y8⟩
    · refine ⟨g_up c6 5 8 2, m4, m6, p', e0.2, eC6 _ ?_, eM, m45, k2, ⟨JS_congr (by rw [g_up_ne (by decide)]) (g_up_ne (by decide)) (g_up_ne (by decide)) rfl rfl hs6, ?_, ?_, ⟨?_, ?_, ?_, ?_, by omega, by omega, by omega⟩, mm.1, ?_, mm.2.1, mm.2.2.1⟩, fC_tr fX (fC_up rfl), gX⟩
      · unfold Job_endIfOver Calls_isOver
        rw [q1.2.1, y1, if_neg (by decide), g_bi_s, if_neg (by decide), g_le_s]
      · obtain ⟨⟨n', a1⟩, a2, ⟨l', a3⟩, ⟨s', a4⟩, ⟨k', a5⟩, a6⟩ := hr6
        have fe : fC (fun q => decide (q = 5)) c6 (g_up c6 5 8 2) := fC_up rfl
        exact ⟨⟨n', JV_congr (by rw [fe 18 rfl]) (fe 19 rfl) rfl rfl rfl rfl a1⟩, JW_congr (fe 20 rfl) rfl a2, ⟨l', JM_congr (by rw [fe 21 rfl]) (fe 22 rfl) (fe 23 rfl) (fe 24 rfl) (fe 25 rfl) (fe 26 rfl) (fe 27 rfl) rfl rfl rfl a3⟩, ⟨s', JP_congr (fe 28 rfl) (fe 29 rfl) (fe 30 rfl) (fe 31 rfl) (fun _ _ _ => rfl) rfl rfl rfl a4⟩, ⟨k', JG_congr (fe 34 rfl) (fe 35 rfl) (fe 36 rfl) rfl rfl rfl a5⟩, fun j hj => by rw [fe 17 rfl]; exact a6 j hj⟩
      · refine ⟨D6, ⟨q1.1, by rw [g_up_ne (by decide)]; exact q1.2.1, q1.2.2.1, fun i hi => CF_congr (by rw [g_up_ne (by decide)]) (by rw [g_up_ne (by decide)]) (by rw [g_up_ne (by decide)]) (by rw [g_up_ne (by decide)]) rfl rfl rfl rfl rfl (q1.2.2.2 i hi)⟩, Or.inl ⟨y1, y2⟩⟩
      · rw [up_n (by decide), num.1, mm.2.1]
      · rw [up_n (by decide), num.2.1, mm.2.2.1, h7]
      · rw [up_n (by decide), num.2.2.1, mm.2.2.2.1]
      · rw [up_n (by decide), num.2.2.2.1, mm.2.2.2.2]
      · rw [up_y, if_pos y2]
    · refine ⟨c6, m4, m6, p', e0.2, eC6 _ ?_, eM, m45, k2, ⟨hs6, hr6, k4, ⟨by rw [num.1, mm.2.1], by rw [num.2.1, mm.2.2.1, h7], by rw [num.2.2.1, mm.2.2.2.1], by rw [num.2.2.2.1, mm.2.2.2.2], by omega, by omega, by omega⟩, mm.1, ?_, mm.2.1, mm.2.2.1⟩, fX, gX⟩
      · unfold Job_endIfOver Calls_isOver
        have := q1.1
        rw [q1.2.1, w32_id (by omega) (by omega), if_pos (by omega), g_bi_s, if_pos (by decide)]
      · rw [num.2.2.2.2, if_neg (by omega)]
  · -- an error
    refine Or.inl ⟨z, e, g_up (g_up (g_up c1 5 9 z) 5 10 a) 5 8 2, m1, ⟨by omega, zb.2⟩, e2, e3, fun y => ?_, fun y => ?_, ?_, up_y, ?_, ?_, ?_, ?_, ?_, ?_, ?_, e7⟩
    · rw [hz0, eFE, if_neg y]
    · rw [hz0, eFE, if_pos y] at zz ⊢
      by_cases y2 : m 49 9 < m 49 10
      · rw [if_pos y2] at zz; exact absurd rfl zz
      · rw [if_neg y2]; exact ⟨rfl, by omega⟩
    · rw [eS, if_neg zz]
    · rw [up_n (by decide), up_n (by decide), up_y]
    · rw [up_n (by decide), up_y]
    · rw [up_n (by decide), up_n (by decide), up_n (by decide), c15]; exact n3
    · rw [up_n (by decide), up_n (by decide), up_n (by decide), c15]; exact n4
    · exact JS_congr (by rw [g_up_ne (by decide), g_up_ne (by decide), g_up_ne (by decide)]) (by rw [g_up_ne (by decide), g_up_ne (by decide), g_up_ne (by decide)]) (by rw [g_up_ne (by decide), g_up_ne (by decide), g_up_ne (by decide)]) rfl rfl hs1
    · have fe : fC sE c (g_up (g_up (g_up c1 5 9 z) 5 10 a) 5 8 2) := fC_tr (fC_rs e6) (fC_tr (fC_up rfl) (fC_tr (fC_up rfl) (fC_up rfl)))
      have ze : ∀ j, j < 64 → g_up (g_up (g_up c1 5 9 z) 5 10 a) 5 8 2 17 j = 0 := fun j hj => by rw [g_up_ne (by decide), g_up_ne (by decide), g_up_ne (by decide)]; exact e5 j hj
      obtain ⟨v3, w3, k3, p3, j3⟩ := RJ_s fe (fM_6s e7) ze hv hW hm hp hg
      exact ⟨⟨n, v3⟩, w3, ⟨l, k3⟩, ⟨s, p3⟩, ⟨k, j3⟩, ze⟩
    · exact fC_tr (fC_rx e6) (fC_tr (fC_up rfl) (fC_tr (fC_up rfl) (fC_up rfl)))
end SP

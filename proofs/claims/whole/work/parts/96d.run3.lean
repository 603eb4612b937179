/-! run, whole -/
def RA (n : Int) (c m : gS) : Prop := RP n c m ∧ JT c m ∧ RH c m
section RS
variable {L : Nat} {n : Int} {c m c' m' : gS}
theorem RJ_congr (hc : ∀ q, 5 ≤ q → q ≤ 36 → c' q = c q) (hm : ∀ k, 4 ≤ k → k ≤ 36 → m' 49 k = m 49 k) (hm2 : ∀ q, 51 ≤ q → q ≤ 65 → m' q = m q) (h : RJ L c m) : RJ L c' m' := by
  obtain ⟨⟨n, hv⟩, hW, ⟨l, hj⟩, ⟨s, hp⟩, ⟨k, hg⟩, hz⟩ := h
  exact ⟨⟨n, JV_congr (by rw [hc 18 (by decide) (by decide)]) (hc 19 (by decide) (by decide)) (hm 13 (by decide) (by decide)) (hm2 52 (by decide) (by decide)) (hm2 54 (by decide) (by decide)) (hm2 51 (by decide) (by decide)) hv⟩, JW_congr (hc 20 (by decide) (by decide)) (hm2 53 (by decide) (by decide)) hW, ⟨l, JM_congr (by rw [hc 21 (by decide) (by decide)]) (hc 22 (by decide) (by decide)) (hc 23 (by decide) (by decide)) (hc 24 (by decide) (by decide)) (hc 25 (by decide) (by decide)) (hc 26 (by decide) (by decide)) (hc 27 (by decide) (by decide)) (hm 32 (by decide) (by decide)) (hm2 62 (by decide) (by decide)) (hm2 63 (by decide) (by decide)) hj⟩, ⟨s, JP_congr (hc 28 (by decide) (by decide)) (hc 29 (by decide) (by decide)) (hc 30 (by decide) (by decide)) (hc 31 (by decide) (by decide)) (fun j a b => hm j (by omega) (by omega)) (hm2 59 (by decide) (by decide)) (hm2 60 (by decide) (by decide)) (hm2 61 (by decide) (by decide)) hp⟩, ⟨k, JG_congr (hc 34 (by decide) (by decide)) (hc 35 (by decide) (by decide)) (hc 36 (by decide) (by decide)) (hm 8 (by decide) (by decide)) (hm 36 (by decide) (by decide)) (hm2 64 (by decide) (by decide)) hg⟩, fun j hj => by rw [hc 17 (by decide) (by decide)]; exact hz j hj⟩
theorem RQ_congr (hc : ∀ q, 5 ≤ q → q ≤ 36 → c' q = c q) (hm : ∀ k, 4 ≤ k → k ≤ 36 → m' 49 k = m 49 k) (hm2 : ∀ q, 51 ≤ q → q ≤ 65 → m' q = m q) (h : RQ L c m) : RQ L c' m' := by
  obtain ⟨w, h1, h2⟩ := h
  refine ⟨w, RJ_congr hc (fun k a b => by rw [sw_n (by decide), sw_n (by decide)]; exact hm k a b) (fun q a b => ?_) h1, fun x => ?_⟩
  · by_cases e : q = 63
    · rw [e, sw_y, sw_y]
    · rw [sw_n e, sw_n e]; exact hm2 q a b
  · rw [hm 5 (by decide) (by decide)] at x
    rw [h2 x, hm2 63 (by decide) (by decide)]
theorem RH_congr (hc : ∀ q, 5 ≤ q → q ≤ 36 → c' q = c q) (hm : ∀ k, 4 ≤ k → k ≤ 36 → m' 49 k = m 49 k) (hm2 : ∀ q, 51 ≤ q → q ≤ 65 → m' q = m q) (h : RH c m) : RH c' m' := by
  obtain ⟨L, hs, hr, hn, h8, hph, h1⟩ := h
  refine ⟨L, JS_congr (by rw [hc 6 (by decide) (by decide)]) (hc 7 (by decide) (by decide)) (hc 8 (by decide) (by decide)) (hm 4 (by decide) (by decide)) (hm2 51 (by decide) (by decide)) hs, RQ_congr hc hm hm2 hr, ?_, ?_, ?_, ?_⟩
  · unfold JN at *
    rw [hc 5 (by decide) (by decide), hm 6 (by decide) (by decide), hm 7 (by decide) (by decide), hm 9 (by decide) (by decide), hm 10 (by decide) (by decide)]
    exact hn
  · rw [hc 5 (by decide) (by decide), hm 5 (by decide) (by decide)]; exact h8
  · rw [hm 5 (by decide) (by decide)]; exact hph
  · rw [hm 5 (by decide) (by decide), hm 6 (by decide) (by decide), hm 7 (by decide) (by decide), hm 11 (by decide) (by decide)]
    intro x
    obtain ⟨y1, y2, y3⟩ := h1 x
    exact ⟨y1, y2, NX_congr (hc 10 (by decide) (by decide)) (hc 11 (by decide) (by decide)) (hc 12 (by decide) (by decide)) (hc 13 (by decide) (by decide)) (hc 14 (by decide) (by decide)) (hm 17 (by decide) (by decide)) (hm2 55 (by decide) (by decide)) (hm2 56 (by decide) (by decide)) (hm2 57 (by decide) (by decide)) (hm2 58 (by decide) (by decide)) (hm2 51 (by decide) (by decide)) y3⟩
theorem RH_code {v : Int} (h : RH c m) : RH c (g_up m 49 0 v) := RH_congr (fun _ _ _ => rfl) (fun k a b => up_n (by omega)) (fun q a b => g_up_ne (by omega)) h
theorem RA_code {v : Int} (h : RA n c m) : RA n c (g_up m 49 0 v) := ⟨RP_code h.1, JT_code h.2.1, RH_code h.2.2⟩
theorem stC_of {q : Nat} (h : ¬ (q = 5) ∧ ¬ (10 ≤ q ∧ q ≤ 36)) : stC q = false := by
  unfold stC
  simp only [Bool.or_eq_false_iff, Bool.and_eq_false_iff, decide_eq_false_iff_not]
  omega
theorem op_run {a : Int} (ha : w32 a = a) (h : RA n c m) : ∃ (t z z' : Int) (c' m' : gS), B_run a c = some (t, z, c') ∧ M_run a m = some (z', m') ∧ ((t = 0 ∧ m' 49 0 = 0 ∧ z = z') ∨ (t = 1 ∧ m' 49 0 = 1) ∨ (t = 2 ∧ m' 49 0 = 2)) ∧ RA n c' m' := by
  obtain ⟨hP, hT, L, hs, hr, hn, h8, hph, h1⟩ := id h
  have wp : w32 (m 49 5) = m 49 5 := by rcases hph with e | e | e <;> rw [e] <;> rfl
  have code : ∀ v : Int, v = 1 ∨ v = 2 → M_run_30 a v m = some (0, g_up m 49 0 v) := by
    intro v hv
    unfold M_run_30
    rw [g_le_s, up_y, if_neg (by rcases hv with e | e <;> rw [e] <;> decide)]
  unfold B_run Job_isUnderWay M_run
  rw [h8, wp]
  by_cases p1 : m 49 5 = 1
  · rw [if_pos p1, g_bi_s, if_neg (show ¬ w32 1 = 0 by decide), if_pos p1, ha]
    have two : ∃ (t z z' : Int) (c' m' : gS), B_run_30 c = some (t, z, c') ∧ M_run_25 a m = some (z', m') ∧ ((t = 0 ∧ m' 49 0 = 0 ∧ z = z') ∨ (t = 1 ∧ m' 49 0 = 1) ∨ (t = 2 ∧ m' 49 0 = 2)) ∧ RA n c' m' := by
      refine ⟨2, 0, 0, c, g_up m 49 0 2, rfl, ?_, Or.inr (Or.inr ⟨rfl, up_y⟩), RA_code h⟩
      unfold M_run_25
      exact code 2 (Or.inr rfl)
    by_cases a1 : a < 1
    · rw [if_pos a1, if_pos a1]
      exact two
    rw [if_neg a1, if_neg a1]
    by_cases a2 : a ≤ 5000
    · rw [if_pos a2, if_pos a2]
      obtain ⟨nn, rfl⟩ : ∃ nn : Nat, a = nn := ⟨a.toNat, by omega⟩
      have hr := hr.rj (by rw [p1]; decide)
      obtain ⟨⟨z6, z7⟩, b11, nx⟩ := h1 p1
      have e44 : m 49 44 = 0 := by
        rcases hP.2.2.2.2.2.2.1.1 with x | x
        · rw [p1] at x; cases x
        · exact x
      have hsd : g_up m 49 0 0 49 12 = 0 ∨ g_up m 49 0 0 49 12 = 1 := by rw [up_n (by decide)]; exact hP.2.2.1.2.2.2.2.2.2.2
      have hs0 : JS L c (g_up m 49 0 0) := JS_congr rfl rfl rfl (up_n (by decide)) (g_up_ne (by decide)) hs
      have nx0 : NX L c (g_up m 49 0 0) := NX_congr rfl rfl rfl rfl rfl (up_n (by decide)) (g_up_ne (by decide)) (g_up_ne (by decide)) (g_up_ne (by decide)) (g_up_ne (by decide)) (g_up_ne (by decide)) nx
      obtain ⟨p, m1, k1, k2, k3⟩ := nx_run hs0 nx0
      have mm : ∀ k, k ≠ 0 → k ≠ 17 → m1 49 k = m 49 k := fun k x y => by
        rw [k3 49 k (by unfold eM; rw [decide_eq_false y]; rfl), up_n (fun e => x e.2)]
      have mq : ∀ q, 50 ≤ q → q ≠ 55 → q ≠ 58 → m1 q = m q := fun q x y w => funext fun j => by
        rw [k3 q j (by unfold eM; rw [decide_eq_false y, decide_eq_false w, decide_eq_false (show ¬ q = 49 by omega)]; rfl), g_up_ne (by omega)]
      obtain ⟨c0, e0, f0, ls⟩ : ∃ c0, Job_endIfOver c = some (0, c0) ∧ fC (fun q => decide (q = 5)) c c0 ∧ LSt L c0 m1 p := by
        have hr1 : RJ L c m1 := by
          obtain ⟨⟨n', hv⟩, hW, ⟨l, hj⟩, ⟨s, hp⟩, ⟨k, hg⟩, hz⟩ := hr
          exact ⟨⟨n', JV_congr rfl rfl (mm 13 (by decide) (by decide)) (mq 52 (by decide) (by decide) (by decide)) (mq 54 (by decide) (by decide) (by decide)) (mq 51 (by decide) (by decide) (by decide)) hv⟩, JW_congr rfl (mq 53 (by decide) (by decide) (by decide)) hW, ⟨l, JM_congr rfl rfl rfl rfl rfl rfl rfl (mm 32 (by decide) (by decide)) (mq 62 (by decide) (by decide) (by decide)) (mq 63 (by decide) (by decide) (by decide)) hj⟩, ⟨s, JP_congr rfl rfl rfl rfl (fun j x y => mm j (by omega) (by omega)) (mq 59 (by decide) (by decide) (by decide)) (mq 60 (by decide) (by decide) (by decide)) (mq 61 (by decide) (by decide) (by decide)) hp⟩, ⟨k, JG_congr rfl rfl rfl (mm 8 (by decide) (by decide)) (mm 36 (by decide) (by decide)) (mq 64 (by decide) (by decide) (by decide)) hg⟩, hz⟩
        have hs1 : JS L c m1 := JS_congr rfl rfl rfl (mm 4 (by decide) (by decide)) (mq 51 (by decide) (by decide) (by decide)) hs
        have hn1 : JN c m1 := by
          unfold JN at *
          rw [mm 6 (by decide) (by decide), mm 7 (by decide) (by decide), mm 9 (by decide) (by decide), mm 10 (by decide) (by decide)]
          exact hn
        obtain ⟨D, q1, q2⟩ := id k2
        rcases q2 with ⟨y1, y2⟩ | ⟨y1, q', b6, y2, y3, y4, y5, y6, y7, y8⟩
        · refine ⟨g_up c 5 8 2, ?_, fC_up rfl, JS_congr (by rw [g_up_ne (by decide)]) (g_up_ne (by decide)) (g_up_ne (by decide)) rfl rfl hs1, ?_, CR_congr (g_up_ne (by decide)) (g_up_ne (by decide)) (g_up_ne (by decide)) (g_up_ne (by decide)) (g_up_ne (by decide)) rfl rfl rfl rfl rfl rfl k2, ?_, by rw [mm 5 (by decide) (by decide)]; exact p1, by rw [up_y, if_pos y2], by rw [mm 6 (by decide) (by decide)]; exact z6, by rw [mm 7 (by decide) (by decide)]; exact z7⟩
          · unfold Job_endIfOver Calls_isOver
            rw [q1.2.1, y1, if_neg (by decide), g_bi_s, if_neg (by decide), g_le_s]
          · obtain ⟨⟨n', hv⟩, hW, ⟨l, hj⟩, ⟨s, hp⟩, ⟨k, hg⟩, hz⟩ := hr1
            have fe : fC (fun q => decide (q = 5)) c (g_up c 5 8 2) := fC_up rfl
            exact ⟨⟨n', JV_congr (by rw [fe 18 rfl]) (fe 19 rfl) rfl rfl rfl rfl hv⟩, JW_congr (fe 20 rfl) rfl hW, ⟨l, JM_congr (by rw [fe 21 rfl]) (fe 22 rfl) (fe 23 rfl) (fe 24 rfl) (fe 25 rfl) (fe 26 rfl) (fe 27 rfl) rfl rfl rfl hj⟩, ⟨s, JP_congr (fe 28 rfl) (fe 29 rfl) (fe 30 rfl) (fe 31 rfl) (fun _ _ _ => rfl) rfl rfl rfl hp⟩, ⟨k, JG_congr (fe 34 rfl) (fe 35 rfl) (fe 36 rfl) rfl rfl rfl hg⟩, fun j hj => by rw [fe 17 rfl]; exact hz j hj⟩
          · unfold JN at *
            rw [up_n (by decide), up_n (by decide), up_n (by decide), up_n (by decide)]
            exact hn1
        · refine ⟨c, ?_, fC_rf _ _, hs1, hr1, k2, hn1, by rw [mm 5 (by decide) (by decide)]; exact p1, by rw [h8, p1, if_neg (by omega)], by rw [mm 6 (by decide) (by decide)]; exact z6, by rw [mm 7 (by decide) (by decide)]; exact z7⟩
          unfold Job_endIfOver Calls_isOver
          have := q1.1
          rw [q1.2.1, w32_id (by omega) (by omega), if_pos (by omega), g_bi_s, if_pos (by decide)]
      obtain ⟨c1, r1, r2, r3⟩ := run_loop (m := g_up m 49 0 0) (nn := nn) (by omega) hsd nn (1000000000000 - nn - 1) (1000000000000 - nn - 3) c0 m1 p (Nat.le_refl nn) ls (fM_ex k3)
      rw [show 1000000000000 - nn - 1 + nn + 1 = gFu by show _ = 1000000000000; omega, Nat.sub_self, show ((0 : Nat) : Int) = 0 from rfl] at r1
      rw [show 1000000000000 - nn - 3 + nn + 3 = gFu by show _ = 1000000000000; omega] at r3
      have eM : M_run_30 nn 0 m = M_run_49L M_run_151 gFu nn p m1 := by
        unfold M_run_30
        rw [g_le_s, up_y, if_pos (by decide), k1, g_bi_s]
      rw [e0, g_bi_s, r1, eM]
      have cfr : ∀ q, stC q = false → c1 q = c q := fun q hq => by
        rw [r2 q hq]
        refine f0 q (decide_eq_false fun e => ?_)
        rw [e] at hq
        cases hq
      have hT1 : ∀ x : gS, fM stM (g_up m 49 0 0) x → JT c1 x := fun x hx => JT_congr (cfr 1 rfl) (cfr 2 rfl) (by rw [hx 49 3 rfl, up_n (by decide)]) (funext fun j => by rw [hx 50 j rfl, g_up_ne (by decide)]) hT
      rcases r3 with ⟨x, p', w1, w2, w3, w4⟩ | ⟨z, q, m2, m3, w1, w2, w3, w4, w5, w6, w7, w8, w9, w10, w11, w12, w13, w14⟩
      · rw [w1]
        obtain ⟨s1, s2, s3, s4, s5, s6, s7, s8⟩ := w2
        rw [if_neg w3] at s6
        refine ⟨0, 0, 0, c1, x, ?_, ?_, Or.inl ⟨rfl, by rw [w4 49 0 rfl, up_y], rfl⟩, ?_, hT1 x w4, L, s1, RQ.of s2, s4, by rw [s6, s5], Or.inr (Or.inl s5), fun _ => ⟨⟨s7, s8⟩, by rw [w4 49 11 rfl, up_n (by decide)]; exact b11, Or.inl ⟨p', s3⟩⟩⟩
        · unfold B_run_75 Job_isUnderWay
          rw [s6, if_pos (by decide), g_bi_s, if_neg (by decide)]
        · unfold M_run_151
          rw [s5, if_pos (by decide)]
        · refine RP_run (m := g_up m 49 0 0) (fun q hq => cfr q (stC_of ?_)) (fun q k hq hk => w4 q k ?_) (by rw [w4 49 44 rfl, up_n (by decide)]; exact e44) (RP_code hP)
          · unfold pcC at hq
            simp only [Bool.and_eq_true, decide_eq_true_eq] at hq
            omega
          · unfold ruM at hq
            unfold stM
            simp only [Bool.or_eq_true, Bool.and_eq_true, decide_eq_true_eq] at hq
            simp only [Bool.or_eq_false_iff, Bool.and_eq_false_iff, decide_eq_false_iff_not]
            omega
      · rw [w1]
        obtain ⟨K, hg⟩ := w13.2.2.2.2.1
        have hgK := hg.1
        have c37 : c1 37 = c 37 := cfr 37 rfl
        have m211 : m2 49 11 = m 49 11 := by rw [w14 49 11 rfl, up_n (by decide)]
        have hP2 : RP n c1 m2 := by
          refine RP_run (m := g_up m 49 0 0) (fun q hq => cfr q (stC_of ?_)) (fun q k hq hk => w14 q k ?_) (by rw [w14 49 44 rfl, up_n (by decide)]; exact e44) (RP_code hP)
          · unfold pcC at hq
            simp only [Bool.and_eq_true, decide_eq_true_eq] at hq
            omega
          · unfold ruM at hq
            unfold stM
            simp only [Bool.or_eq_true, Bool.and_eq_true, decide_eq_true_eq] at hq
            simp only [Bool.or_eq_false_iff, Bool.and_eq_false_iff, decide_eq_false_iff_not]
            omega
        have c4 : c1 37 4 = m 49 11 := by rw [hP2.2.2.2.2.2.2.1.2, m211]
        have c5 : c1 37 5 = 0 ∨ c1 37 5 = 1 := by rw [hP2.1.2.2.2.2.2.2.2.2]; exact hP2.2.2.1.2.2.2.2.2.2.2
        obtain ⟨c2, y1, y2, y3, y4, y5, y6, y7, y8⟩ := completeC (c := c1) (k := K) hg.1 (by rw [c4]; exact b11) c5
        obtain ⟨m4, v1, v2, v3, v4, v5, v6, v7⟩ := endM (m := m2) (z := z) (q := q) w4 (by rw [hg.2.2.1]; omega) (by rw [← hP2.1.2.2.2.2.2.2.2.2]; exact c5)
        have e34 : m4 = m3 := (congrArg Prod.snd (Option.some.inj (w3.symm.trans v1))).symm
        subst e34
        have c2q : ∀ q, q ≠ 37 → c2 q = c1 q := fun q hq => y8 q (decide_eq_false hq)
        have m3k : ∀ k, k ≠ 5 → k ≠ 6 → k ≠ 7 → k ≠ 44 → m4 49 k = m2 49 k := fun k x1 x2 x3 x4 => v7 49 k (by unfold enM; rw [decide_eq_false x1, decide_eq_false x2, decide_eq_false x3, decide_eq_false x4]; rfl)
        have m3q : ∀ q, q ≠ 49 → q ≠ 73 → m4 q = m2 q := fun q x1 x2 => funext fun j => v7 q j (by unfold enM; rw [decide_eq_false x1, decide_eq_false x2]; rfl)
        have hres : B_run_75 c1 = some (0, if z = 0 then 1 else 2, c2) := by
          unfold B_run_75 Job_isUnderWay
          rw [w6, if_neg (by decide), g_bi_s, if_pos (by decide), hg.2.1, y1, g_bi_s, c2q 5 (by decide), w7, w32_id (z := z) (by omega) (by omega)]
          by_cases zz : z = 0
          · rw [if_pos zz, if_pos zz]
          · rw [if_neg zz, if_neg zz]
        have hresM : M_run_151 m4 = some (if z = 0 then 1 else 2, m4) := by
          unfold M_run_151
          rw [v2, if_neg (by decide), v3, w32_id (z := z) (by omega) (by omega)]
          by_cases zz : z = 0
          · rw [if_pos zz, if_pos zz]
          · rw [if_neg zz, if_neg zz]
        refine ⟨0, _, _, c2, m4, hres, hresM, Or.inl ⟨rfl, by rw [m3k 0 (by decide) (by decide) (by decide) (by decide), w14 49 0 rfl, up_y], rfl⟩, ?_, ?_, L, ?_, ?_, ?_, by rw [c2q 5 (by decide), w6, v2], Or.inr (Or.inr v2), fun x => by rw [v2] at x; cases x⟩
        · exact RP_end hP2 (by rw [w14 49 44 rfl, up_n (by decide)]; exact e44) (by rw [m211]; exact b11) hg.1 hg.2.2.1 y4 y5 y6 y7 y2 y3 y8 v2 v5 v6 v7
        · exact JT_congr (c2q 1 (by decide)) (c2q 2 (by decide)) (m3k 3 (by decide) (by decide) (by decide) (by decide)) (m3q 50 (by decide) (by decide)) (hT1 m2 w14)
        · exact JS_congr (by rw [c2q 6 (by decide)]) (c2q 7 (by decide)) (c2q 8 (by decide)) (m3k 4 (by decide) (by decide) (by decide) (by decide)) (m3q 51 (by decide) (by decide)) w12
        · obtain ⟨⟨n', hv⟩, hW, ⟨l, hj⟩, ⟨s, hp⟩, ⟨k, hg'⟩, hz⟩ := w13
          exact RQ.of ⟨⟨n', JV_congr (by rw [c2q 18 (by decide)]) (c2q 19 (by decide)) (m3k 13 (by decide) (by decide) (by decide) (by decide)) (m3q 52 (by decide) (by decide)) (m3q 54 (by decide) (by decide)) (m3q 51 (by decide) (by decide)) hv⟩, JW_congr (c2q 20 (by decide)) (m3q 53 (by decide) (by decide)) hW, ⟨l, JM_congr (by rw [c2q 21 (by decide)]) (c2q 22 (by decide)) (c2q 23 (by decide)) (c2q 24 (by decide)) (c2q 25 (by decide)) (c2q 26 (by decide)) (c2q 27 (by decide)) (m3k 32 (by decide) (by decide) (by decide) (by decide)) (m3q 62 (by decide) (by decide)) (m3q 63 (by decide) (by decide)) hj⟩, ⟨s, JP_congr (c2q 28 (by decide)) (c2q 29 (by decide)) (c2q 30 (by decide)) (c2q 31 (by decide)) (fun j x y => m3k j (by omega) (by omega) (by omega) (by omega)) (m3q 59 (by decide) (by decide)) (m3q 60 (by decide) (by decide)) (m3q 61 (by decide) (by decide)) hp⟩, ⟨k, JG_congr (c2q 34 (by decide)) (c2q 35 (by decide)) (c2q 36 (by decide)) (m3k 8 (by decide) (by decide) (by decide) (by decide)) (m3k 36 (by decide) (by decide) (by decide) (by decide)) (m3q 64 (by decide) (by decide)) hg'⟩, fun j hj => by rw [c2q 17 (by decide)]; exact hz j hj⟩
        · unfold JN
          rw [c2q 5 (by decide), w7, w8, w9, w10, v3, v4, m3k 9 (by decide) (by decide) (by decide) (by decide), m3k 10 (by decide) (by decide) (by decide) (by decide)]
          refine ⟨rfl, rfl, rfl, rfl, w4, ?_, w11⟩
          split <;> omega
    · rw [if_neg a2, if_neg a2]
      exact two
  · rw [if_neg p1, g_bi_s, if_pos (show w32 0 = 0 from rfl), if_neg p1]
    exact ⟨1, 0, 0, c, g_up m 49 0 1, rfl, code 1 (Or.inl rfl), Or.inr (Or.inl ⟨rfl, up_y⟩), RA_code h⟩
end RS

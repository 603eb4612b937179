/-! words, one by one -/
section WD
variable {L n l s k D : Nat} {c m c' m' : gS} {w : Int}
theorem pf_ctl (h : in_a w) (a : Int) (e : Job_control w c = some (0, c')) : Job_perform w a c = some (0, c') := by
  have q : (32 ≤ w ∧ w ≤ 126) ∧ ¬ (48 ≤ w ∧ w ≤ 57) ∧ ¬ (97 ≤ w ∧ w ≤ 122) ∧ w ≠ 123 ∧ w ≠ 58 := by rcases h with rfl | rfl | rfl <;> decide
  rw [pf_n q.1.1 q.1.2 q.2.1 q.2.2.1 q.2.2.2.1 q.2.2.2.2, if_pos h, e, g_bi_s]
theorem pf_drw (h : in_b w) (a : Int) (e : Job_draw w c = some (0, c')) : Job_perform w a c = some (0, c') := by
  have q : (32 ≤ w ∧ w ≤ 126) ∧ ¬ (48 ≤ w ∧ w ≤ 57) ∧ ¬ (97 ≤ w ∧ w ≤ 122) ∧ w ≠ 123 ∧ w ≠ 58 ∧ ¬ in_a w := by rcases h with rfl | rfl | rfl | rfl | rfl <;> decide
  rw [pf_n q.1.1 q.1.2 q.2.1 q.2.2.1 q.2.2.2.1 q.2.2.2.2.1, if_neg q.2.2.2.2.2, if_pos h, e, g_bi_s]
theorem pf_use (h : in_c w) (a : Int) (e : Job_use w c = some (0, c')) : Job_perform w a c = some (0, c') := by
  have q : (32 ≤ w ∧ w ≤ 126) ∧ ¬ (48 ≤ w ∧ w ≤ 57) ∧ ¬ (97 ≤ w ∧ w ≤ 122) ∧ w ≠ 123 ∧ w ≠ 58 ∧ ¬ in_a w ∧ ¬ in_b w := by rcases h with rfl | rfl | rfl | rfl | rfl | rfl | rfl | rfl | rfl <;> decide
  rw [pf_n q.1.1 q.1.2 q.2.1 q.2.2.1 q.2.2.2.1 q.2.2.2.2.1, if_neg q.2.2.2.2.2.1, if_neg q.2.2.2.2.2.2, if_pos h, e, g_bi_s]
abbrev isK (w : Int) : Prop := isA w ∨ w = 126 ∨ w = 68 ∨ w = 88 ∨ w = 79
theorem pf_rck (h : isK w) (a : Int) (e : Job_reckon w c = some (0, c')) : Job_perform w a c = some (0, c') := by
  have q : (32 ≤ w ∧ w ≤ 126) ∧ ¬ (48 ≤ w ∧ w ≤ 57) ∧ ¬ (97 ≤ w ∧ w ≤ 122) ∧ w ≠ 123 ∧ w ≠ 58 ∧ ¬ in_a w ∧ ¬ in_b w ∧ ¬ in_c w := by rcases h with (rfl | rfl | rfl | rfl | rfl | rfl | rfl) | rfl | rfl | rfl | rfl <;> decide
  rw [pf_n q.1.1 q.1.2 q.2.1 q.2.2.1 q.2.2.2.1 q.2.2.2.2.1, if_neg q.2.2.2.2.2.1, if_neg q.2.2.2.2.2.2.1, if_neg q.2.2.2.2.2.2.2, e, g_bi_s]
theorem md_rck (h : isA w ∨ w = 63) (a : Int) (e : M_reckon w m = some (0, m')) : M_do a w m = some (0, m') := by
  have q : (32 ≤ w ∧ w ≤ 126) ∧ isW w ∧ ¬ (48 ≤ w ∧ w ≤ 57) ∧ ¬ (97 ≤ w ∧ w ≤ 122) ∧ w ≠ 123 ∧ w ≠ 58 ∧ ¬ nd w ≤ 0 ∧ ¬ 65 ≤ w := by rcases h with (rfl | rfl | rfl | rfl | rfl | rfl | rfl) | rfl <;> decide
  rw [md_n q.1.1 q.1.2 q.2.1 q.2.2.1 q.2.2.2.1 q.2.2.2.2.1 q.2.2.2.2.2.1, if_neg q.2.2.2.2.2.2.1, if_neg q.2.2.2.2.2.2.2, e, g_bi_s]
abbrev isO (w : Int) : Prop := w = 82 ∨ w = 81 ∨ in_b w ∨ in_c w ∨ w = 126 ∨ w = 68 ∨ w = 88 ∨ w = 79
theorem md_ord (h : isO w) (a : Int) (e : M_order w m = some (0, m')) : M_do a w m = some (0, m') := by
  have q : (32 ≤ w ∧ w ≤ 126) ∧ isW w ∧ ¬ (48 ≤ w ∧ w ≤ 57) ∧ ¬ (97 ≤ w ∧ w ≤ 122) ∧ w ≠ 123 ∧ w ≠ 58 ∧ 65 ≤ w := by
    rcases h with rfl | rfl | (rfl | rfl | rfl | rfl | rfl) | (rfl | rfl | rfl | rfl | rfl | rfl | rfl | rfl | rfl) | rfl | rfl | rfl | rfl <;> decide
  rw [md_n q.1.1 q.1.2 q.2.1 q.2.2.1 q.2.2.2.1 q.2.2.2.2.1 q.2.2.2.2.2.1, if_pos q.2.2.2.2.2.2, e, g_bi_s]
  split <;> rfl
theorem do_reck (hs : JS L c m) (hu : CU L D c m) (hv : JV L n c m) (hW : JW c m) (hm : JM l c m) (hp : JP s c m) (hg : JG k c m) (hz : ∀ j, j < 64 → c 17 j = 0) (h : isK w) (ok : okW w L n l s k D c m) (a : Int) : ∃ c' m', Job_perform w a c = some (0, c') ∧ M_do a w m = some (0, m') ∧ DO L c m c' m' := by
  obtain ⟨o1, o2, o3, o4, o5, o6⟩ := ok
  rcases h with h | rfl | rfl | rfl | rfl
  · have hd : nd w = 2 := by rcases h with rfl | rfl | rfl | rfl | rfl | rfl | rfl <;> decide
    have hp0 : pcn w = 0 ∧ w ≠ 68 ∧ w ≠ 88 ∧ w ≠ 79 := by rcases h with rfl | rfl | rfl | rfl | rfl | rfl | rfl <;> decide
    have k1 := o2 hp0.2.1 hp0.2.2.1 hp0.2.2.2 1 (by omega)
    have k0 := o2 hp0.2.1 hp0.2.2.1 hp0.2.2.2 0 (by omega)
    rw [hp0.1, if_neg (by decide)] at k0 k1
    rw [show n - 1 - 1 = n - 2 by omega] at k1
    rw [show n - 1 - 0 = n - 1 by omega] at k0
    obtain ⟨c', m', r1, r2, r3, r4, r5⟩ := reck_bin hv (by omega) h k1 k0 rfl rfl o4 o3.1
    exact ⟨c', m', pf_rck (Or.inl h) a r1, md_rck (Or.inl h) a r2, do_stack hs hu hW hm hp hg hz r3 r4 r5⟩
  · have hd : nd 126 = 1 := by decide
    have k0 := o2 (by decide) (by decide) (by decide) 0 (by omega)
    rw [if_neg (by decide), show n - 1 - 0 = n - 1 by omega] at k0
    obtain ⟨c', m', r1, r2, r3, r4, r5⟩ := reck_neg hv (by omega) k0
    exact ⟨c', m', pf_rck (by decide) a r1, md_ord (by decide) a r2, do_stack hs hu hW hm hp hg hz r3 r4 r5⟩
  · have hd : nd 68 = 1 := by decide
    obtain ⟨c', m', r1, r2, r3, r4, r5⟩ := reck_D hv (by omega) (o5.1 (by decide))
    exact ⟨c', m', pf_rck (by decide) a r1, md_ord (by decide) a r2, do_stack hs hu hW hm hp hg hz r3 r4 r5⟩
  · have hd : nd 88 = 2 := by decide
    obtain ⟨c', m', r1, r2, r3, r4, r5⟩ := reck_X hv (by omega)
    exact ⟨c', m', pf_rck (by decide) a r1, md_ord (by decide) a r2, do_stack hs hu hW hm hp hg hz r3 r4 r5⟩
  · have hd : nd 79 = 1 := by decide
    obtain ⟨c', m', r1, r2, r3, r4, r5⟩ := reck_O hv (by omega)
    exact ⟨c', m', pf_rck (by decide) a r1, md_ord (by decide) a r2, do_stack hs hu hW hm hp hg hz r3 r4 r5⟩
theorem do_va (hs : JS L c m) (hu : CU L D c m) (hW : JW c m) (hm : JM l c m) (hg : JG k c m) (hz : ∀ j, j < 64 → c 17 j = 0) (hv : JV L n c' m') (hp : JP s c' m') (f1 : fC vaC c c') (f2 : fM vaM m m') : DO L c m c' m' :=
  do_of hs hu ⟨⟨n, hv⟩, JW_congr (f1 20 rfl) (funext fun i => f2 53 i rfl) hW, ⟨l, JM_fr f1 f2 hm⟩, ⟨s, hp⟩, ⟨k, JG_congr (f1 34 rfl) (f1 35 rfl) (f1 36 rfl) (f2 49 8 rfl) (f2 49 36 rfl) (funext fun i => f2 64 i rfl) hg⟩, fun j hj => by rw [f1 17 rfl]; exact hz j hj⟩ (fC_vo f1) (fM_vo f2)
theorem do_draw (hs : JS L c m) (hu : CU L D c m) (hv : JV L n c m) (hW : JW c m) (hm : JM l c m) (hp : JP s c m) (hg : JG k c m) (hz : ∀ j, j < 64 → c 17 j = 0) (h : in_b w) (ok : okW w L n l s k D c m) (a : Int) : ∃ c' m', Job_perform w a c = some (0, c') ∧ M_do a w m = some (0, m') ∧ DO L c m c' m' := by
  obtain ⟨o1, o2, o3, o4, o5, o6⟩ := ok
  have d0 : ∀ (x : gS) (w : Int), x 18 1 = n → w32 w = w → nd w = 0 → Job_draw_165 w x = some (0, x) := by
    intro x w h1 hw h0
    unfold Job_draw_165
    rw [needsC x hw, g_bi_s, h0, drop_is h1 hv.2.1 0 0 rfl (by omega), g_bi_s, Nat.sub_zero, up_id h1]
  rcases h with rfl | rfl | rfl | rfl | rfl
  · have hd : nd 77 = 2 := by decide
    have k1 := o2 (by decide) (by decide) (by decide) 1 (by omega)
    have k0 := o2 (by decide) (by decide) (by decide) 0 (by omega)
    rw [if_neg (by decide)] at k0 k1
    obtain ⟨c', m', r1, r2, r3, r4, r5, r6⟩ := draw_M hv hm hp (by omega) k0 k1 (o3.2.1 (by decide)) (o6.2.1 rfl)
    exact ⟨c', m', pf_drw (by decide) a r1, md_ord (by decide) a r2, do_va hs hu hW hm hg hz r3 r4 r5 r6⟩
  · have hd : nd 76 = 2 := by decide
    have k1 := o2 (by decide) (by decide) (by decide) 1 (by omega)
    have k0 := o2 (by decide) (by decide) (by decide) 0 (by omega)
    rw [if_neg (by decide)] at k0 k1
    obtain ⟨t, c', m', r1, r2, r3, r4, r5, r6⟩ := draw_L hv hm hp (by omega) k0 k1 (o3.2.1 (by decide)) (o6.1 (by decide)) (o6.2.2.1 rfl)
    exact ⟨c', m', pf_drw (by decide) a r1, md_ord (by decide) a r2, do_va hs hu hW hm hg hz r3 r4 r5 r6⟩
  · have hd : nd 67 = 6 := by decide
    have kz : ∀ j, j < 6 → m 54 (n - 1 - j) = 0 := fun j hj => by
      have := o2 (by decide) (by decide) (by decide) j (by omega)
      rw [show pcn 67 = 0 by decide, if_neg (by omega)] at this
      exact this
    obtain ⟨q0, q2, q4⟩ := o3.2.2.1 rfl
    obtain ⟨t, c', m', r1, r2, r3, r4, r5, r6⟩ := draw_C hv hm hp (by omega) kz q0 q2 q4 (o6.1 (by decide)) (o6.2.2.2.1 rfl)
    exact ⟨c', m', pf_drw (by decide) a r1, md_ord (by decide) a r2, do_va hs hu hW hm hg hz r3 r4 r5 r6⟩
  · obtain ⟨c', m', r1, r2, r3, r4, r5⟩ := close_both hp (o6.1 (by decide))
    refine ⟨c', m', pf_drw (by decide) a ?_, md_ord (by decide) a r2, do_va hs hu hW hm hg hz (JV_fr r4 r5 hv) r3 (fC_va r4) (fM_va r5)⟩
    unfold Job_draw
    simp (decide := true) only [if_true, if_false]
    rw [r1, g_bi_s, d0 c' 90 (by rw [r4 18 rfl]; exact hv.2.2.1) (by decide) (by decide)]
  · obtain ⟨c', m', r1, r2, r3, r4, r5⟩ := clear_both hp
    refine ⟨c', m', pf_drw (by decide) a ?_, md_ord (by decide) a ?_, do_va hs hu hW hm hg hz (JV_fr r4 r5 hv) r3 (fC_va r4) (fM_va r5)⟩
    · unfold Job_draw
      simp (decide := true) only [if_true, if_false]
      rw [r1, g_bi_s, d0 c' 78 (by rw [r4 18 rfl]; exact hv.2.2.1) (by decide) (by decide)]
    · unfold M_order
      simp (decide := true) only [if_true, if_false]
      rw [r2, g_bi_s]
theorem do_set (hs : JS L c m) (hu : CU L D c m) (hW : JW c m) (hp : JP s c m) (hg : JG k c m) (hz : ∀ j, j < 64 → c 17 j = 0) (hv : JV L n c' m') (hm : JM l c' m') (f1 : fC (fun q => vC q || mC q) c c') (f2 : fM (fun q k => vM q k || mM q k) m m') : DO L c m c' m' := by
  refine do_of hs hu ⟨⟨n, hv⟩, JW_congr (f1 20 rfl) (funext fun i => f2 53 i rfl) hW, ⟨l, hm⟩, ⟨s, JP_congr (f1 28 rfl) (f1 29 rfl) (f1 30 rfl) (f1 31 rfl) (fun j a b => f2 49 j ?_) (funext fun i => f2 59 i rfl) (funext fun i => f2 60 i rfl) (funext fun i => f2 61 i rfl) hp⟩, ⟨k, JG_congr (f1 34 rfl) (f1 35 rfl) (f1 36 rfl) (f2 49 8 rfl) (f2 49 36 rfl) (funext fun i => f2 64 i rfl) hg⟩, fun j hj => by rw [f1 17 rfl]; exact hz j hj⟩ (fC_mono (fun q h => ?_) f1) (fM_mono (fun q j h => ?_) f2)
  · show (vM 49 j || mM 49 j) = false
    unfold vM mM
    rw [decide_eq_false (show ¬ j = 13 by omega), decide_eq_false (show ¬ j = 32 by omega)]
    rfl
  · have h : (vC q || mC q) = true := h
    unfold vC mC at h
    unfold oC
    simp only [Bool.or_eq_true, Bool.and_eq_true, decide_eq_true_eq] at h ⊢
    omega
  · have h : (vM q j || mM q j) = true := h
    unfold vM mM at h
    unfold oM
    simp only [Bool.or_eq_true, Bool.and_eq_true, decide_eq_true_eq] at h ⊢
    omega
theorem m419 (w : Int) (h : w = 71 ∨ w = 80 ∨ w = 83 ∨ w = 84 ∨ w = 85 ∨ w = 86) (e : M_state w m = some (0, m')) : M_order w m = some (0, m') := by
  unfold M_order M_order_419
  rcases h with rfl | rfl | rfl | rfl | rfl | rfl <;> simp (decide := true) only [if_true, if_false] <;> rw [e, g_bi_s]
theorem use_e (h1 : c 18 1 = n) (hn : n ≤ 32) {w : Int} (hw : w32 w = w) {e : Nat} (he : nd w = e) (hen : e ≤ n) : Job_use_260 w c = some (0, g_up c 18 1 ((n - e : Nat) : Int)) := by
  unfold Job_use_260
  rw [needsC c hw, g_bi_s, he, drop_is h1 hn e e rfl hen, g_bi_s]
theorem do_use (hs : JS L c m) (hu : CU L D c m) (hv : JV L n c m) (hW : JW c m) (hm : JM l c m) (hp : JP s c m) (hg : JG k c m) (hz : ∀ j, j < 64 → c 17 j = 0) (h : in_c w) (ok : okW w L n l s k D c m) (a : Int) : ∃ c' m', Job_perform w a c = some (0, c') ∧ M_do a w m = some (0, m') ∧ DO L c m c' m' := by
  obtain ⟨o1, o2, o3, o4, o5, o6⟩ := ok
  obtain ⟨v0, v1, v2, v3, v4⟩ := id hv
  obtain ⟨e0, r0⟩ := hm.2.2.2.1.1
  simp only [Nat.zero_add] at e0 r0
  have big : ∀ (c' m' : gS) (l' k' : Nat), JV L n c' m' → JM l' c' m' → JP 0 c' m' → JG k' c' m' → (∀ j, j < 64 → c' 17 j = 0) → fC oC c c' → fM oM m m' → c' 20 = c 20 → m' 53 = m 53 → DO L c m c' m' := fun c' m' l' k' a b d e f g i x y => do_of hs hu ⟨⟨n, a⟩, JW_congr x y hW, ⟨l', b⟩, ⟨0, d⟩, ⟨k', e⟩, f⟩ g i
  rcases h with rfl | rfl | rfl | rfl | rfl | rfl | rfl | rfl | rfl
  · -- F
    obtain ⟨t1, t2⟩ := o6.2.2.2.2.1 rfl
    obtain ⟨c', m', r1, r2, r3, r4, r5, r6, r7, r8, r9, r10, r11⟩ := fill_both' hv hm hp hg (Or.inl rfl) t1 t2 (w := 70) (by decide) (by decide)
    refine ⟨c', m', pf_use (by decide) a ?_, md_ord (by decide) a ?_, big c' m' l k r3 r4 r5 r6 (fun j hj => by rw [r7]; exact hz j hj) r8 r9 r10 r11⟩
    · unfold Job_use
      simp (decide := true) only [if_true, if_false]
      exact r1
    · unfold M_order M_order_394 M_order_406
      simp (decide := true) only [if_true, if_false]
      rw [show (1 : Int) = 1 - 0 from rfl, r2, g_bi_s]
  · -- E
    obtain ⟨t1, t2⟩ := o6.2.2.2.2.2.1 rfl
    obtain ⟨c', m', r1, r2, r3, r4, r5, r6, r7, r8, r9, r10, r11⟩ := fill_both' hv hm hp hg (Or.inr rfl) t1 t2 (w := 69) (by decide) (by decide)
    refine ⟨c', m', pf_use (by decide) a ?_, md_ord (by decide) a ?_, big c' m' l k r3 r4 r5 r6 (fun j hj => by rw [r7]; exact hz j hj) r8 r9 r10 r11⟩
    · unfold Job_use
      simp (decide := true) only [if_true, if_false]
      exact r1
    · unfold M_order M_order_394 M_order_406
      simp (decide := true) only [if_true, if_false]
      rw [show (0 : Int) = 1 - 1 from rfl, r2, g_bi_s]
  · -- W
    obtain ⟨c', m', r1, r2, r3, r4, r5, r6, r7, r8, r9, r10, r11⟩ := cut_both' hv hm hp hg hz
    refine ⟨c', m', pf_use (by decide) a r1, md_ord (by decide) a ?_, big c' m' l k r3 r4 r5 r6 r7 r8 r9 r10 r11⟩
    unfold M_order
    simp (decide := true) only [if_true, if_false]
    rw [r2, g_bi_s]
  · -- T
    have hd : nd 84 = ((2 : Nat) : Int) := by decide
    have k1 := o2 (by decide) (by decide) (by decide) 1 (by omega)
    have k0 := o2 (by decide) (by decide) (by decide) 0 (by omega)
    rw [if_neg (by decide)] at k0 k1
    obtain ⟨x1, x2, x3⟩ := at_num hv (k := 1) (by omega) k1
    obtain ⟨y1, y2, y3⟩ := at_num hv (k := 0) (by omega) k0
    have nn := o3.2.1 (by decide)
    obtain ⟨g1, g2⟩ := move_both hm x2 x3 y2 y3 nn.1 nn.2.1 nn.2.2.1 nn.2.2.2
    obtain ⟨c1, hc1⟩ : ∃ x, x = g_up (g_up c 24 l (pX m (m 52 (n - 1 - 1)))) 25 l (pY m (m 52 (n - 1 - 0))) := ⟨_, rfl⟩
    obtain ⟨m1, hm1⟩ : ∃ x, x = g_up (g_up m 62 2 (pX m (m 52 (n - 1 - 1)))) 62 3 (pY m (m 52 (n - 1 - 0))) := ⟨_, rfl⟩
    rw [← hc1] at g1 g2
    rw [← hm1] at g2
    have f1 : fC mC c c1 := by rw [hc1]; exact fC_tr (fC_up rfl) (fC_up rfl)
    have f2 : fM mM m m1 := by rw [hm1]; exact fM_tr (fM_up rfl) (fM_up rfl)
    have hv1 : JV L n c1 m1 := JV_congr (by rw [f1 18 rfl]) (f1 19 rfl) (f2 49 13 rfl) (funext fun j => f2 52 j rfl) (funext fun j => f2 54 j rfl) (funext fun j => f2 51 j rfl) hv
    refine ⟨_, _, pf_use (by decide) a (c' := g_up c1 18 1 ((n - 2 : Nat) : Int)) ?_, md_ord (by decide) a (m419 84 (by decide) (m' := g_up m1 49 13 ((n - 2 : Nat) : Int)) ?_), do_set hs hu hW hp hg hz (JV_drop hv1 (k := 2) (by omega)) (JM_congr (by rw [g_up_ne (by decide)]) (g_up_ne (by decide)) (g_up_ne (by decide)) (g_up_ne (by decide)) (g_up_ne (by decide)) (g_up_ne (by decide)) (g_up_ne (by decide)) (up_n (by decide)) (g_up_ne (by decide)) (g_up_ne (by decide)) g2) (fC_tr (fC_mono (fun q h => by rw [h, Bool.or_true]) f1) (fC_up rfl)) (fM_tr (fM_mono (fun q j h => by rw [h, Bool.or_true]) f2) (fM_up rfl))⟩
    · unfold Job_use
      simp (decide := true) only [if_true, if_false]
      rw [peek_in v2 v1 1 1 rfl (by omega), g_bi_s, peek_in v2 v1 0 0 rfl (by omega), g_bi_s, x1, y1, g1, g_bi_s, use_e hv1.2.2.1 v1 (by decide) hd (by omega)]
    · unfold M_state
      rw [if_neg (by decide), if_neg (by decide), if_pos (by decide), num_in v3 v1 1 1 rfl (by omega), g_bi_s, xM hm x2 x3, g_bi_s, num_in v3 v1 0 0 rfl (by omega), g_bi_s, yM hm y2 y3, g_bi_s, g_le_s, g_le_s, ← hm1, g_le_s, hv1.2.2.2.1, show (n : Int) - 2 = ((n - 2 : Nat) : Int) by omega]
  · -- S
    have hd : nd 83 = ((2 : Nat) : Int) := by decide
    have k1 := o2 (by decide) (by decide) (by decide) 1 (by omega)
    have k0 := o2 (by decide) (by decide) (by decide) 0 (by omega)
    rw [if_neg (by decide)] at k0 k1
    obtain ⟨x1, x2, x3⟩ := at_num hv (k := 1) (by omega) k1
    obtain ⟨y1, y2, y3⟩ := at_num hv (k := 0) (by omega) k0
    obtain ⟨n1, n2⟩ := o3.2.2.2.1 rfl
    obtain ⟨g1, g2⟩ := stretch_both hm x2 x3 y2 y3 n1.1 n1.2 n2.1 n2.2
    obtain ⟨c1, hc1⟩ : ∃ x, x = g_up (g_up c 22 l (m 62 0 * m 52 (n - 1 - 1) / 16)) 23 l (m 62 1 * m 52 (n - 1 - 0) / 16) := ⟨_, rfl⟩
    obtain ⟨m1, hm1⟩ : ∃ x, x = g_up (g_up m 62 0 (m 62 0 * m 52 (n - 1 - 1) / 16)) 62 1 (m 62 1 * m 52 (n - 1 - 0) / 16) := ⟨_, rfl⟩
    rw [← hc1] at g1 g2
    rw [← hm1] at g2
    have f1 : fC mC c c1 := by rw [hc1]; exact fC_tr (fC_up rfl) (fC_up rfl)
    have f2 : fM mM m m1 := by rw [hm1]; exact fM_tr (fM_up rfl) (fM_up rfl)
    have hv1 : JV L n c1 m1 := JV_congr (by rw [f1 18 rfl]) (f1 19 rfl) (f2 49 13 rfl) (funext fun j => f2 52 j rfl) (funext fun j => f2 54 j rfl) (funext fun j => f2 51 j rfl) hv
    have num0 : M_number 0 (g_up m 62 0 (m 62 0 * m 52 (n - 1 - 1) / 16)) = some (m 52 (n - 1 - 0), g_up m 62 0 (m 62 0 * m 52 (n - 1 - 1) / 16)) := by
      have := num_in (m := g_up m 62 0 (m 62 0 * m 52 (n - 1 - 1) / 16)) (n := n) (by rw [g_up_ne (by decide)]; exact v3) v1 0 0 rfl (by omega)
      rw [g_up_ne (show 52 ≠ 62 by decide)] at this
      exact this
    refine ⟨_, _, pf_use (by decide) a (c' := g_up c1 18 1 ((n - 2 : Nat) : Int)) ?_, md_ord (by decide) a (m419 83 (by decide) (m' := g_up m1 49 13 ((n - 2 : Nat) : Int)) ?_), do_set hs hu hW hp hg hz (JV_drop hv1 (k := 2) (by omega)) (JM_congr (by rw [g_up_ne (by decide)]) (g_up_ne (by decide)) (g_up_ne (by decide)) (g_up_ne (by decide)) (g_up_ne (by decide)) (g_up_ne (by decide)) (g_up_ne (by decide)) (up_n (by decide)) (g_up_ne (by decide)) (g_up_ne (by decide)) g2) (fC_tr (fC_mono (fun q h => by rw [h, Bool.or_true]) f1) (fC_up rfl)) (fM_tr (fM_mono (fun q j h => by rw [h, Bool.or_true]) f2) (fM_up rfl))⟩
    · unfold Job_use
      simp (decide := true) only [if_true, if_false]
      rw [peek_in v2 v1 1 1 rfl (by omega), g_bi_s, peek_in v2 v1 0 0 rfl (by omega), g_bi_s, x1, y1, g1, g_bi_s, use_e hv1.2.2.1 v1 (by decide) hd (by omega)]
    · unfold M_state
      rw [if_neg (by decide), if_pos (by decide), num_in v3 v1 1 1 rfl (by omega), g_bi_s, six m (by omega) (by omega) x2 x3, g_bi_s, g_le_s, num0, g_bi_s, up_n (by decide), six _ (by omega) (by omega) y2 y3, g_bi_s, g_le_s, ← hm1, g_le_s, hv1.2.2.2.1, show (n : Int) - 2 = ((n - 2 : Nat) : Int) by omega]
  · -- G
    have hd : nd 71 = ((1 : Nat) : Int) := by decide
    have k0 := o2 (by decide) (by decide) (by decide) 0 (by omega)
    rw [if_neg (by decide)] at k0
    obtain ⟨y1, y2, y3⟩ := at_num hv (k := 0) (by omega) k0
    obtain ⟨n1, n2⟩ := o3.2.2.2.2 rfl
    obtain ⟨g1, g2⟩ := grey_both hm n1 n2
    obtain ⟨c1, hc1⟩ : ∃ x, x = g_up c 26 l (m 52 (n - 1 - 0)) := ⟨_, rfl⟩
    obtain ⟨m1, hm1⟩ : ∃ x, x = g_up m 62 4 (m 52 (n - 1 - 0)) := ⟨_, rfl⟩
    rw [← hc1] at g1 g2
    rw [← hm1] at g2
    have f1 : fC mC c c1 := by rw [hc1]; exact fC_up rfl
    have f2 : fM mM m m1 := by rw [hm1]; exact fM_up rfl
    have hv1 : JV L n c1 m1 := JV_congr (by rw [f1 18 rfl]) (f1 19 rfl) (f2 49 13 rfl) (funext fun j => f2 52 j rfl) (funext fun j => f2 54 j rfl) (funext fun j => f2 51 j rfl) hv
    have sw : g_up (g_up m 49 13 ((n - 1 : Nat) : Int)) 62 4 (m 52 (n - 1 - 0)) = g_up m1 49 13 ((n - 1 : Nat) : Int) := by
      rw [hm1]
      funext i j
      rw [g_up_at, g_up_at, g_up_at, g_up_at]
      by_cases r : i = 62 ∧ j = 4
      · rw [if_pos r, if_neg (by omega), if_pos r]
      · rw [if_neg r, if_neg r]
    refine ⟨_, _, pf_use (by decide) a (c' := g_up c1 18 1 ((n - 1 : Nat) : Int)) ?_, md_ord (by decide) a (m419 71 (by decide) (m' := g_up m1 49 13 ((n - 1 : Nat) : Int)) ?_), do_set hs hu hW hp hg hz (JV_drop hv1 (k := 1) (by omega)) (JM_congr (by rw [g_up_ne (by decide)]) (g_up_ne (by decide)) (g_up_ne (by decide)) (g_up_ne (by decide)) (g_up_ne (by decide)) (g_up_ne (by decide)) (g_up_ne (by decide)) (up_n (by decide)) (g_up_ne (by decide)) (g_up_ne (by decide)) g2) (fC_tr (fC_mono (fun q h => by rw [h, Bool.or_true]) f1) (fC_up rfl)) (fM_tr (fM_mono (fun q j h => by rw [h, Bool.or_true]) f2) (fM_up rfl))⟩
    · unfold Job_use
      simp (decide := true) only [if_true, if_false]
      rw [peek_in v2 v1 0 0 rfl (by omega), g_bi_s, y1, g1, g_bi_s, use_e hv1.2.2.1 v1 (by decide) hd (by omega)]
    · unfold M_state
      rw [if_pos (by decide), g_le_s, v3, show (n : Int) - 1 = ((n - 1 : Nat) : Int) by omega, up_y, w_nat (show n - 1 < 2147483648 by omega), if_pos ⟨by omega, by omega⟩, g_le_s, Int.toNat_natCast, g_up_ne (show 52 ≠ 49 by decide), ← sw]
      rfl
  · -- U
    obtain ⟨c', m', r1, r2, r3, r4, r5⟩ := save_both hm (o6.2.2.2.2.2.2.2.1 rfl)
    have hv1 : JV L n c' m' := JV_congr (by rw [r4 18 rfl]) (r4 19 rfl) (r5 49 13 rfl) (funext fun j => r5 52 j rfl) (funext fun j => r5 54 j rfl) (funext fun j => r5 51 j rfl) hv
    refine ⟨c', m', pf_use (by decide) a ?_, md_ord (by decide) a (m419 85 (by decide) r2), do_set hs hu hW hp hg hz hv1 r3 (fC_mono (fun q h => by rw [h, Bool.or_true]) r4) (fM_mono (fun q j h => by rw [h, Bool.or_true]) r5)⟩
    unfold Job_use
    simp (decide := true) only [if_true, if_false]
    rw [r1, g_bi_s, use_0 hv1.2.2.1 v1 (by decide) (by decide)]
  · -- V
    have hl := o6.2.2.2.2.2.2.2.2.1 rfl
    obtain ⟨j, rfl⟩ : ∃ j, l = j + 1 := ⟨l - 1, by omega⟩
    obtain ⟨c', m', r1, r2, r3, r4, r5⟩ := back_both hm
    have hv1 : JV L n c' m' := JV_congr (by rw [r4 18 rfl]) (r4 19 rfl) (r5 49 13 rfl) (funext fun j => r5 52 j rfl) (funext fun j => r5 54 j rfl) (funext fun j => r5 51 j rfl) hv
    refine ⟨c', m', pf_use (by decide) a ?_, md_ord (by decide) a (m419 86 (by decide) r2), do_set hs hu hW hp hg hz hv1 r3 (fC_mono (fun q h => by rw [h, Bool.or_true]) r4) (fM_mono (fun q j h => by rw [h, Bool.or_true]) r5)⟩
    unfold Job_use Job_use_253
    simp (decide := true) only [if_true, if_false]
    rw [r1, g_bi_s, use_0 hv1.2.2.1 v1 (by decide) (by decide)]
  · -- P
    obtain ⟨c', m', r1, r2, r3, r4, r5, r6, r7, r8, r9, r10, r11⟩ := keep_both' hv hm hp hg (o6.2.2.2.2.2.2.1 rfl)
    exact ⟨c', m', pf_use (by decide) a r1, md_ord (by decide) a (m419 80 (by decide) r2), big c' m' l (k + 1) r3 r4 r5 r6 (fun j hj => by rw [r7]; exact hz j hj) r8 r9 r10 r11⟩
end WD

/-! a word is done on both sides -/
def RJ (L : Nat) (c m : gS) : Prop := (∃ n, JV L n c m) ∧ JW c m ∧ (∃ l, JM l c m) ∧ (∃ s, JP s c m) ∧ (∃ k, JG k c m) ∧ ∀ j, j < 64 → c 17 j = 0
/-- both sides go to the next word -/
def PX (L : Nat) (c m : gS) : Prop := ∀ v : Int, ∃ (c' m' : gS) (p : Int), Calls_settle (g_up c 5 11 v) = some (0, c') ∧ M_next m = some (p, m') ∧ CR L c' m' p ∧ fC eC (g_up c 5 11 v) c' ∧ fM eM m m'
def bC (q : Nat) : Bool := decide (10 ≤ q) && decide (q ≤ 36)
def bM (q k : Nat) : Bool := (decide (q = 49) && (decide (k = 8) || decide (k = 13) || decide (k = 17) || (decide (22 ≤ k) && decide (k ≤ 28)) || decide (k = 32) || decide (k = 36))) || (decide (52 ≤ q) && decide (q ≤ 65))
def DO (L : Nat) (c m c' m' : gS) : Prop := RJ L c' m' ∧ JS L c' m' ∧ PX L c' m' ∧ fC bC c c' ∧ fM bM m m'
def M_do (a1 v2 : Int) (s14 : gS) : gA := g_bi (M_isDigit v2 s14) fun r16 s17 => (if w32 r16 = 0 then (g_bi (M_isLetter v2 s17) fun r20 s21 => (if w32 r20 = 0 then (if w32 v2 = 123 then (g_bi (M_push a1 1 s21) fun _ s45 => (some (0, s45))) else (if w32 v2 = 58 then (g_le (g_up s21 49 13 ((s21 49 13) - 1)) fun s37 => if 0 ≤ w32 (a1 + 1) ∧ w32 (a1 + 1) < 300 then if 0 ≤ w32 (s37 49 13) ∧ w32 (s37 49 13) < 33 then if 0 ≤ w32 ((s37 51 (w32 (a1 + 1)).toNat) - 97) ∧ w32 ((s37 51 (w32 (a1 + 1)).toNat) - 97) < 26 then g_le (g_up s37 53 (w32 ((s37 51 (w32 (a1 + 1)).toNat) - 97)).toNat (s37 52 (w32 (s37 49 13)).toNat)) fun s42 => (some (0, s42)) else none else none else none) else (g_bi (M_needs v2 s21) fun r26 s27 => (if w32 r26 ≤ 0 then (M_step_215 v2 s27) else (if 65 ≤ w32 v2 then (M_step_215 v2 s27) else (g_bi (M_reckon v2 s27) fun _ s35 => (some (0, s35)))))))) else (if 0 ≤ w32 (v2 - 97) ∧ w32 (v2 - 97) < 26 then g_bi (M_push (s21 53 (w32 (v2 - 97)).toNat) 0 s21) fun _ s49 => (some (0, s49)) else none))) else ((M_step_65L M_step_101 gFu) a1 0 0 s17))
section DD
variable {L n l s k D p : Nat} {c m c' m' : gS} {w : Int}
theorem fC_ob (f : fC oC c c') : fC bC c c' := fC_mono (fun q h => by
  unfold oC at h
  unfold bC
  simp only [Bool.and_eq_true, decide_eq_true_eq] at h ⊢
  omega) f
theorem fM_ob (f : fM oM m m') : fM bM m m' := fM_mono (fun q j h => by
  unfold oM at h
  unfold bM
  simp only [Bool.or_eq_true, Bool.and_eq_true, decide_eq_true_eq] at h ⊢
  omega) f
theorem fC_vo (f : fC vaC c c') : fC oC c c' := fC_mono (fun q h => by
  unfold vaC vC aC at h
  unfold oC
  simp only [Bool.or_eq_true, Bool.and_eq_true, decide_eq_true_eq] at h ⊢
  omega) f
theorem fM_vo (f : fM vaM m m') : fM oM m m' := fM_mono (fun q j h => by
  unfold vaM vM aM at h
  unfold oM
  simp only [Bool.or_eq_true, Bool.and_eq_true, decide_eq_true_eq] at h ⊢
  omega) f
theorem fC_mo (f : fC mC c c') : fC oC c c' := fC_mono (fun q h => by
  unfold mC at h
  unfold oC
  simp only [Bool.and_eq_true, decide_eq_true_eq] at h ⊢
  omega) f
theorem fM_mo (f : fM mM m m') : fM oM m m' := fM_mono (fun q j h => by
  unfold mM at h
  unfold oM
  simp only [Bool.or_eq_true, Bool.and_eq_true, decide_eq_true_eq] at h ⊢
  omega) f
theorem CU_fr (f1 : fC oC c c') (f2 : fM oM m m') (h : CU L D c m) : CU L D c' m' := by
  obtain ⟨h1, h2, h3, h4⟩ := h
  refine ⟨h1, by rw [f1 10 rfl]; exact h2, by rw [f2 49 17 rfl]; exact h3, fun j hj => CF_congr (by rw [f1 11 rfl]) (by rw [f1 12 rfl]) (by rw [f1 13 rfl]) (by rw [f1 14 rfl]) (f2 55 j rfl) (f2 56 j rfl) (f2 57 j rfl) (f2 58 j rfl) (funext fun i => f2 51 i rfl) (h4 j hj)⟩
theorem JS_fr (f1 : fC bC c c') (f2 : fM bM m m') (h : JS L c m) : JS L c' m' := JS_congr (by rw [f1 6 rfl]) (f1 7 rfl) (f1 8 rfl) (f2 49 4 rfl) (funext fun i => f2 51 i rfl) h
theorem JS_5 {v : Int} (h : JS L c m) : JS L (g_up c 5 11 v) m := JS_congr (by rw [g_up_ne (by decide)]) (g_up_ne (by decide)) (g_up_ne (by decide)) rfl rfl h
theorem CU_5 {v : Int} (h : CU L D c m) : CU L D (g_up c 5 11 v) m := by
  obtain ⟨h1, h2, h3, h4⟩ := h
  exact ⟨h1, by rw [g_up_ne (by decide)]; exact h2, h3, fun j hj => CF_congr (by rw [g_up_ne (by decide)]) (by rw [g_up_ne (by decide)]) (by rw [g_up_ne (by decide)]) (by rw [g_up_ne (by decide)]) rfl rfl rfl rfl rfl (h4 j hj)⟩
theorem px_of (hs : JS L c m) (hu : CU L D c m) : PX L c m := by
  intro v
  obtain ⟨c', m', p, k1, k2, k3, k4, k5⟩ := settle_both (JS_5 (v := v) hs) (CU_5 (v := v) hu)
  have e := k2 (1000000000000 - 23)
  rw [show 1000000000000 - 23 + 23 = gFu from rfl] at e
  exact ⟨c', m', p, k1, e, k3, k4, k5⟩
theorem do_of (hs : JS L c m) (hu : CU L D c m) (hr : RJ L c' m') (f1 : fC oC c c') (f2 : fM oM m m') : DO L c m c' m' := by
  have hs' := JS_fr (fC_ob f1) (fM_ob f2) hs
  exact ⟨hr, hs', px_of hs' (CU_fr f1 f2 hu), fC_ob f1, fM_ob f2⟩
/-! which part does it -/
theorem pf_n (h0 : 32 ≤ w) (h1 : w ≤ 126) (n1 : ¬ (48 ≤ w ∧ w ≤ 57)) (n2 : ¬ (97 ≤ w ∧ w ≤ 122)) (n3 : w ≠ 123) (n4 : w ≠ 58) (a : Int) : Job_perform w a c = if in_a w then g_bi (Job_control w c) (fun _ s33 => some (0, s33)) else if in_b w then g_bi (Job_draw w c) (fun _ s30 => some (0, s30)) else if in_c w then g_bi (Job_use w c) (fun _ s27 => some (0, s27)) else g_bi (Job_reckon w c) (fun _ s24 => some (0, s24)) := by
  have hw := w_v h0 h1
  have d0 : dg w = 0 := by unfold dg; rw [if_neg n1]
  have l0 : lt w = 0 := by unfold lt; rw [if_neg n2]
  unfold Job_perform
  rw [dgC c hw, g_bi_s, d0, if_pos (show w32 0 = 0 from rfl), ltC c hw, g_bi_s, l0, if_pos (show w32 0 = 0 from rfl), hw, if_neg n3, if_neg n4, one_a c h0 h1, g_bi_s, one_b c h0 h1, g_bi_s, one_c c h0 h1, g_bi_s]
  by_cases a1 : in_a w
  · rw [if_pos a1, if_pos a1, if_neg (show ¬ w32 1 = 0 by decide)]
  · rw [if_neg a1, if_neg a1, if_pos (show w32 0 = 0 from rfl)]
    by_cases a2 : in_b w
    · rw [if_pos a2, if_pos a2, if_neg (show ¬ w32 1 = 0 by decide)]
    · rw [if_neg a2, if_neg a2, if_pos (show w32 0 = 0 from rfl)]
      by_cases a3 : in_c w
      · rw [if_pos a3, if_pos a3, if_neg (show ¬ w32 1 = 0 by decide)]
      · rw [if_neg a3, if_neg a3, if_pos (show w32 0 = 0 from rfl)]
theorem md_n (h0 : 32 ≤ w) (h1 : w ≤ 126) (hW : isW w) (n1 : ¬ (48 ≤ w ∧ w ≤ 57)) (n2 : ¬ (97 ≤ w ∧ w ≤ 122)) (n3 : w ≠ 123) (n4 : w ≠ 58) (a : Int) : M_do a w m = if nd w ≤ 0 then g_bi (M_order w m) (fun _ s31 => some (0, s31)) else if 65 ≤ w then g_bi (M_order w m) (fun _ s31 => some (0, s31)) else g_bi (M_reckon w m) (fun _ s35 => some (0, s35)) := by
  have hw := w_v h0 h1
  have d0 : dg w = 0 := by unfold dg; rw [if_neg n1]
  have l0 : lt w = 0 := by unfold lt; rw [if_neg n2]
  have nb : 0 ≤ nd w ∧ nd w ≤ 6 := by unfold nd; constructor <;> repeat' split <;> omega
  unfold M_do M_step_215
  rw [dgM m hw, g_bi_s, d0, if_pos (show w32 0 = 0 from rfl), ltM m hw, g_bi_s, l0, if_pos (show w32 0 = 0 from rfl), hw, if_neg n3, if_neg n4, needsM m hw, g_bi_s, if_pos hW, w32_id (z := nd w) (by omega) (by omega)]
/-! numbers, letters, braces, names -/
theorem RJ_v (hw : JW c' m') (hv : JV L n c' m') (f1 : fC vC c c') (f2 : fM (fun q k => vM q k || decide (q = 53)) m m') (hm : JM l c m) (hp : JP s c m) (hg : JG k c m) (hz : ∀ j, j < 64 → c 17 j = 0) (f20 : True) : RJ L c' m' := by
  refine ⟨⟨n, hv⟩, hw, ⟨l, JM_congr (by rw [f1 21 rfl]) (f1 22 rfl) (f1 23 rfl) (f1 24 rfl) (f1 25 rfl) (f1 26 rfl) (f1 27 rfl) (f2 49 32 rfl) (funext fun i => f2 62 i rfl) (funext fun i => f2 63 i rfl) hm⟩, ⟨s, JP_congr (f1 28 rfl) (f1 29 rfl) (f1 30 rfl) (f1 31 rfl) (fun j a b => f2 49 j (by
    show (vM 49 j || decide (49 = 53)) = false
    unfold vM
    rw [decide_eq_false (show ¬ j = 13 by omega)]
    rfl)) (funext fun i => f2 59 i rfl) (funext fun i => f2 60 i rfl) (funext fun i => f2 61 i rfl) hp⟩, ⟨k, JG_congr (f1 34 rfl) (f1 35 rfl) (f1 36 rfl) (f2 49 8 rfl) (f2 49 36 rfl) (funext fun i => f2 64 i rfl) hg⟩, fun j hj => by rw [f1 17 rfl]; exact hz j hj⟩
theorem vM_w (f : fM vM m m') : fM (fun q k => vM q k || decide (q = 53)) m m' := fM_mono (fun q j h => by rw [h, Bool.true_or]) f
theorem vM_o (f : fM vM m m') : fM oM m m' := fM_vo (fM_vv f)
theorem vC_o (f : fC vC c c') : fC oC c c' := fC_vo (fC_vv f)
theorem do_stack (hs : JS L c m) (hu : CU L D c m) (hW : JW c m) (hm : JM l c m) (hp : JP s c m) (hg : JG k c m) (hz : ∀ j, j < 64 → c 17 j = 0) (hv : JV L n c' m') (f1 : fC vC c c') (f2 : fM vM m m') : DO L c m c' m' :=
  do_of hs hu (RJ_v (JW_congr (f1 20 rfl) (funext fun i => f2 53 i rfl) hW) hv f1 (vM_w f2) hm hp hg hz trivial) (vC_o f1) (vM_o f2)
theorem do_digit (hs : JS L c m) (hu : CU L D c m) (hv : JV L n c m) (hW : JW c m) (hm : JM l c m) (hp : JP s c m) (hg : JG k c m) (hz : ∀ j, j < 64 → c 17 j = 0) (hpL : p < L) (hd : isD (m 51 p)) (hn : n < 32) : ∃ c' m', Job_perform (m 51 p) p c = some (0, c') ∧ M_do p (m 51 p) m = some (0, m') ∧ DO L c m c' m' := by
  obtain ⟨v, v1, v2, v3, v4⟩ := number_both hs hpL hd
  have hw := hs.vw hpL
  have d1 : dg (m 51 p) = 1 := by unfold dg; rw [if_pos hd]
  refine ⟨_, _, ?_, ?_, do_stack hs hu hW hm hp hg hz (JV_push hv hn (x := v) (y := v) (p := 0) (Or.inl ⟨rfl, rfl, by omega, by omega⟩)) fC_push fM_push⟩
  · unfold Job_perform
    rw [dgC c hw, g_bi_s, d1, if_neg (show ¬ w32 1 = 0 by decide), v1, g_bi_s, push_C hv.2.2.1 hn, g_bi_s]
  · unfold M_do
    rw [dgM m hw, g_bi_s, d1, if_neg (show ¬ w32 1 = 0 by decide), v2]
    unfold M_step_101
    rw [push_M hv.2.2.2.1 (by omega) v (Or.inl rfl), g_bi_s]
theorem do_letter (hs : JS L c m) (hu : CU L D c m) (hv : JV L n c m) (hW : JW c m) (hm : JM l c m) (hp : JP s c m) (hg : JG k c m) (hz : ∀ j, j < 64 → c 17 j = 0) (h1 : 97 ≤ w) (h2 : w ≤ 122) (hn : n < 32) (a : Int) : ∃ c' m', Job_perform w a c = some (0, c') ∧ M_do a w m = some (0, m') ∧ DO L c m c' m' := by
  have hw : w32 w = w := w_v (by omega) (by omega)
  have d0 : dg w = 0 := by unfold dg; rw [if_neg (by omega)]
  have l1 : lt w = 1 := by unfold lt; rw [if_pos ⟨h1, h2⟩]
  obtain ⟨i, hi⟩ : ∃ i : Nat, w - 97 = i := ⟨(w - 97).toNat, by omega⟩
  have hi26 : i < 26 := by omega
  obtain ⟨x1, x2, x3⟩ := hW i hi26
  have bi_ : (0 : Int) ≤ (i : Int) ∧ (i : Int) < 26 := ⟨by omega, by omega⟩
  refine ⟨_, _, ?_, ?_, do_stack hs hu hW hm hp hg hz (JV_push hv hn (x := c 20 i) (y := m 53 i) (p := 0) (Or.inl ⟨rfl, x1, x2, x3⟩)) fC_push fM_push⟩
  · unfold Job_perform
    rw [dgC c hw, g_bi_s, d0, if_pos (show w32 0 = 0 from rfl), ltC c hw, g_bi_s, l1, if_neg (show ¬ w32 1 = 0 by decide), hi, w_nat (by omega), if_pos bi_, Int.toNat_natCast, push_C hv.2.2.1 hn, g_bi_s]
  · unfold M_do
    rw [dgM m hw, g_bi_s, d0, if_pos (show w32 0 = 0 from rfl), ltM m hw, g_bi_s, l1, if_neg (show ¬ w32 1 = 0 by decide), hi, w_nat (by omega), if_pos bi_, Int.toNat_natCast, push_M hv.2.2.2.1 (by omega) _ (Or.inl rfl), g_bi_s]
theorem do_brace (hs : JS L c m) (hu : CU L D c m) (hv : JV L n c m) (hW : JW c m) (hm : JM l c m) (hp : JP s c m) (hg : JG k c m) (hz : ∀ j, j < 64 → c 17 j = 0) (hpL : p < L) (hd : m 51 p = 123) (hn : n < 32) : ∃ c' m', Job_perform (m 51 p) p c = some (0, c') ∧ M_do p (m 51 p) m = some (0, m') ∧ DO L c m c' m' := by
  have hw := hs.vw hpL
  have d0 : dg (m 51 p) = 0 := by unfold dg; rw [if_neg (by omega)]
  have l0 : lt (m 51 p) = 0 := by unfold lt; rw [if_neg (by omega)]
  refine ⟨_, _, ?_, ?_, do_stack hs hu hW hm hp hg hz (JV_push hv hn (x := 2000000 + (p : Int)) (y := p) (p := 1) (Or.inr ⟨rfl, p, rfl, rfl, hpL, hd⟩)) fC_push fM_push⟩
  · unfold Job_perform
    rw [dgC c hw, g_bi_s, d0, if_pos (show w32 0 = 0 from rfl), ltC c hw, g_bi_s, l0, if_pos (show w32 0 = 0 from rfl), hw, if_pos hd, push_C hv.2.2.1 hn, g_bi_s]
  · unfold M_do
    rw [dgM m hw, g_bi_s, d0, if_pos (show w32 0 = 0 from rfl), ltM m hw, g_bi_s, l0, if_pos (show w32 0 = 0 from rfl), hw, if_pos hd, push_M hv.2.2.2.1 (by omega) _ (Or.inr rfl), g_bi_s]
theorem do_name (hs : JS L c m) (hu : CU L D c m) (hv : JV L n c m) (hW : JW c m) (hm : JM l c m) (hp : JP s c m) (hg : JG k c m) (hz : ∀ j, j < 64 → c 17 j = 0) (hpL : p < L) (hd : m 51 p = 58) (hn : 1 ≤ n) (hk : m 54 (n - 1) = 0) : ∃ c' m', Job_perform (m 51 p) p c = some (0, c') ∧ M_do p (m 51 p) m = some (0, m') ∧ DO L c m c' m' := by
  obtain ⟨v0, v1, v2, v3, v4⟩ := id hv
  have hL := hs.2.2.1.le
  obtain ⟨co1, co2, co3⟩ := hs.2.2.1.colon hpL hd
  have hw := hs.vw hpL
  have d0 : dg (m 51 p) = 0 := by unfold dg; rw [if_neg (by omega)]
  have l0 : lt (m 51 p) = 0 := by unfold lt; rw [if_neg (by omega)]
  obtain ⟨i, hi⟩ : ∃ i : Nat, m 51 (p + 1) - 97 = i := ⟨(m 51 (p + 1) - 97).toNat, by omega⟩
  have hi26 : i < 26 := by omega
  have l1 : lt (m 51 (p + 1)) = 1 := by unfold lt; rw [if_pos ⟨co2, co3⟩]
  obtain ⟨x1, x2, x3⟩ := (v4 (n - 1) (by omega)).num hk
  have bi_ : (0 : Int) ≤ (i : Int) ∧ (i : Int) < 26 := ⟨by omega, by omega⟩
  have pk := peek_in v2 v1 0 0 rfl (by omega)
  rw [show n - 1 - 0 = n - 1 by omega] at pk
  have hv1 : JV L n (g_up c 20 i (c 19 (n - 1))) (g_up m 53 i (m 52 (n - 1))) := JV_congr (by rw [g_up_ne (by decide)]) (g_up_ne (by decide)) (by rw [g_up_ne (by decide)]) (g_up_ne (by decide)) (g_up_ne (by decide)) (g_up_ne (by decide)) hv
  have hJ := JV_drop hv1 (k := 1) hn
  have hWc : JW (g_up (g_up c 20 i (c 19 (n - 1))) 18 1 ((n - 1 : Nat) : Int)) (g_up (g_up m 53 i (m 52 (n - 1))) 49 13 ((n - 1 : Nat) : Int)) := by
    intro j hj
    rw [g_up_ne (show 20 ≠ 18 by decide), g_up_ne (show 53 ≠ 49 by decide)]
    by_cases e : j = i
    · rw [e, up_y, up_y]; exact ⟨x1, x2, x3⟩
    · rw [up_n (by omega), up_n (by omega)]; exact hW j hj
  have sw : g_up (g_up m 49 13 ((n - 1 : Nat) : Int)) 53 i (m 52 (n - 1)) = g_up (g_up m 53 i (m 52 (n - 1))) 49 13 ((n - 1 : Nat) : Int) := by
    funext a b
    rw [g_up_at, g_up_at, g_up_at, g_up_at]
    by_cases r : a = 53 ∧ b = i
    · rw [if_pos r, if_neg (by omega), if_pos r]
    · rw [if_neg r, if_neg r]
  have f1 : fC (fun q => vC q || decide (q = 20)) c (g_up (g_up c 20 i (c 19 (n - 1))) 18 1 ((n - 1 : Nat) : Int)) := fC_tr (fC_up rfl) (fC_up rfl)
  have f2 : fM (fun q k => vM q k || decide (q = 53)) m (g_up (g_up m 53 i (m 52 (n - 1))) 49 13 ((n - 1 : Nat) : Int)) := fM_tr (fM_up rfl) (fM_up rfl)
  refine ⟨_, _, ?_, ?_, do_of hs hu ⟨⟨n - 1, hJ⟩, hWc, ⟨l, JM_congr (by rw [f1 21 rfl]) (f1 22 rfl) (f1 23 rfl) (f1 24 rfl) (f1 25 rfl) (f1 26 rfl) (f1 27 rfl) (f2 49 32 rfl) (funext fun i => f2 62 i rfl) (funext fun i => f2 63 i rfl) hm⟩, ⟨s, JP_congr (f1 28 rfl) (f1 29 rfl) (f1 30 rfl) (f1 31 rfl) (fun j a b => f2 49 j (by
    show (vM 49 j || decide (49 = 53)) = false
    unfold vM
    rw [decide_eq_false (show ¬ j = 13 by omega)]
    rfl)) (funext fun i => f2 59 i rfl) (funext fun i => f2 60 i rfl) (funext fun i => f2 61 i rfl) hp⟩, ⟨k, JG_congr (f1 34 rfl) (f1 35 rfl) (f1 36 rfl) (f2 49 8 rfl) (f2 49 36 rfl) (funext fun i => f2 64 i rfl) hg⟩, fun j hj => by rw [f1 17 rfl]; exact hz j hj⟩ (fC_tr (fC_up rfl) (fC_up rfl)) (fM_tr (fM_up rfl) (fM_up rfl))⟩
  · unfold Job_perform Job_assign Job_assign_24
    have dr := drop_is (c := g_up c 20 i (c 19 (n - 1))) (n := n) (by rw [g_up_ne (by decide)]; exact v2) v1 1 1 rfl hn
    rw [dgC c hw, g_bi_s, d0, if_pos (show w32 0 = 0 from rfl), ltC c hw, g_bi_s, l0, if_pos (show w32 0 = 0 from rfl), hw, if_neg (show ¬ m 51 p = 123 by omega), if_pos hd, show (p : Int) + 1 = ((p + 1 : Nat) : Int) by omega, sgn hs co1, g_bi_s, ltC c (hs.vw co1), g_bi_s, l1, if_neg (show ¬ w32 1 = 0 by decide), pk, g_bi_s, hi, w_nat (by omega), if_pos bi_, g_le_s, Int.toNat_natCast, dr, g_bi_s, g_bi_s]
  · unfold M_do
    have b1 : (0 : Int) ≤ ((p + 1 : Nat) : Int) ∧ ((p + 1 : Nat) : Int) < 300 := ⟨by omega, by omega⟩
    have b2 : (0 : Int) ≤ ((n - 1 : Nat) : Int) ∧ ((n - 1 : Nat) : Int) < 33 := ⟨by omega, by omega⟩
    rw [dgM m hw, g_bi_s, d0, if_pos (show w32 0 = 0 from rfl), ltM m hw, g_bi_s, l0, if_pos (show w32 0 = 0 from rfl), hw, if_neg (show ¬ m 51 p = 123 by omega), if_pos hd, v3, show (n : Int) - 1 = ((n - 1 : Nat) : Int) by omega, g_le_s, show (p : Int) + 1 = ((p + 1 : Nat) : Int) by omega, w_nat (show p + 1 < 2147483648 by omega), if_pos b1, up_y, w_nat (show n - 1 < 2147483648 by omega), if_pos b2, Int.toNat_natCast, Int.toNat_natCast, g_up_ne (show 51 ≠ 49 by decide), hi, w_nat (show i < 2147483648 by omega), if_pos bi_, g_le_s, Int.toNat_natCast, g_up_ne (show 52 ≠ 49 by decide), sw]
end DD

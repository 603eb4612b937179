/-! words that draw -/
def vaC (q : Nat) : Bool := vC q || aC q
def vaM (q k : Nat) : Bool := vM q k || aM q k
theorem fC_mono {P Q : Nat → Bool} (h : ∀ q, P q = true → Q q = true) {c c' : gS} (k : fC P c c') : fC Q c c' := by
  intro q hq
  refine k q ?_
  cases e : P q with
  | false => rfl
  | true => rw [h q e] at hq; cases hq
theorem fM_mono {P Q : Nat → Nat → Bool} (h : ∀ q k, P q k = true → Q q k = true) {m m' : gS} (k : fM P m m') : fM Q m m' := by
  intro q j hq
  refine k q j ?_
  cases e : P q j with
  | false => rfl
  | true => rw [h q j e] at hq; cases hq
theorem fC_va {c c' : gS} (k : fC aC c c') : fC vaC c c' := fC_mono (fun q h => by unfold vaC; rw [h, Bool.or_true]) k
theorem fM_va {m m' : gS} (k : fM aM m m') : fM vaM m m' := fM_mono (fun q j h => by unfold vaM; rw [h, Bool.or_true]) k
theorem fC_vv {c c' : gS} (k : fC vC c c') : fC vaC c c' := fC_mono (fun q h => by unfold vaC; rw [h, Bool.true_or]) k
theorem fM_vv {m m' : gS} (k : fM vM m m') : fM vaM m m' := fM_mono (fun q j h => by unfold vaM; rw [h, Bool.true_or]) k
theorem hr_all (g : Nat → Int) {k : Nat} (h1 : 1 ≤ k) (h2 : k ≤ 8) : hr g (3 * k) = alg 3 (g 0) (g 8) (g 16) (g 24) k 8 := by
  obtain ⟨a1, a2, a3, a4, a5, a6, a7, a8⟩ := hr_alg g
  rcases (show k = 1 ∨ k = 2 ∨ k = 3 ∨ k = 4 ∨ k = 5 ∨ k = 6 ∨ k = 7 ∨ k = 8 by omega) with rfl | rfl | rfl | rfl | rfl | rfl | rfl | rfl
  · exact a1
  · exact a2
  · exact a3
  · exact a4
  · exact a5
  · exact a6
  · exact a7
  · exact a8
section DR
variable {L n l s : Nat} {c m c' m' : gS}
theorem JV_fr (f1 : fC aC c c') (f2 : fM aM m m') (h : JV L n c m) : JV L n c' m' :=
  JV_congr (by rw [f1 18 rfl]) (f1 19 rfl) (f2 49 13 rfl) (funext fun k => f2 52 k rfl) (funext fun k => f2 54 k rfl) (funext fun k => f2 51 k rfl) h
theorem JM_fr (f1 : fC vaC c c') (f2 : fM vaM m m') (h : JM l c m) : JM l c' m' :=
  JM_congr (by rw [f1 21 rfl]) (f1 22 rfl) (f1 23 rfl) (f1 24 rfl) (f1 25 rfl) (f1 26 rfl) (f1 27 rfl) (f2 49 32 rfl) (funext fun k => f2 62 k rfl) (funext fun k => f2 63 k rfl) h
theorem JP_fr (f1 : fC vC c c') (f2 : fM vM m m') (h : JP s c m) : JP s c' m' :=
  JP_congr (f1 28 rfl) (f1 29 rfl) (f1 30 rfl) (f1 31 rfl) (fun k k1 k2 => f2 49 k (by unfold vM; rw [decide_eq_false (show ¬ k = 13 by omega)]; rfl)) (funext fun k => f2 59 k rfl) (funext fun k => f2 60 k rfl) (funext fun k => f2 61 k rfl) h
/-- a number of the stack, as both sides place it -/
theorem at_num (hv : JV L n c m) {k : Nat} (hk : k < n) (e : m 54 (n - 1 - k) = 0) : c 19 (n - 1 - k) = m 52 (n - 1 - k) ∧ -3000000 ≤ m 52 (n - 1 - k) ∧ m 52 (n - 1 - k) ≤ 3000000 := by
  have := (hv.2.2.2.2 (n - 1 - k) (by omega)).num e
  omega
theorem jpX (hv : JV L n c m) (hm : JM l c m) (a : Int) (k : Nat) (ha : a = k) (hk : k < n) (e : m 54 (n - 1 - k) = 0) : Job_placedX a c = some (pX m (m 52 (n - 1 - k)), c) := by
  obtain ⟨q1, q2, q3⟩ := at_num hv hk e
  unfold Job_placedX
  rw [peek_in hv.2.2.1 hv.2.1 a k ha hk, g_bi_s, q1, plX hm q2 q3, g_bi_s]
theorem jpY (hv : JV L n c m) (hm : JM l c m) (a : Int) (k : Nat) (ha : a = k) (hk : k < n) (e : m 54 (n - 1 - k) = 0) : Job_placedY a c = some (pY m (m 52 (n - 1 - k)), c) := by
  obtain ⟨q1, q2, q3⟩ := at_num hv hk e
  unfold Job_placedY
  rw [peek_in hv.2.2.1 hv.2.1 a k ha hk, g_bi_s, q1, plY hm q2 q3, g_bi_s]
/-- a place of the stack's numbers k + 1 and k lies near enough -/
def nr (m : gS) (n k : Nat) : Prop := -100000 ≤ pX m (m 52 (n - 1 - (k + 1))) ∧ pX m (m 52 (n - 1 - (k + 1))) ≤ 100000 ∧ -100000 ≤ pY m (m 52 (n - 1 - k)) ∧ pY m (m 52 (n - 1 - k)) ≤ 100000
theorem drop_J (hv : JV L n c m) {e : Nat} (he : e ≤ n) (w : Int) (hw : w32 w = w) (hn : nd w = e) : Job_draw_165 w c = some (0, g_up c 18 1 ((n - e : Nat) : Int)) ∧ M_draw_154 e m = some (0, g_up m 49 13 ((n - e : Nat) : Int)) := by
  constructor
  · unfold Job_draw_165
    rw [needsC c hw, g_bi_s, hn, drop_is hv.2.2.1 hv.2.1 e e rfl he, g_bi_s]
  · unfold M_draw_154
    rw [hv.2.2.2.1, g_le_s, show (n : Int) - e = ((n - e : Nat) : Int) by omega]
theorem draw_M (hv : JV L n c m) (hm : JM l c m) (hp : JP s c m) (hn : 2 ≤ n) (k0 : m 54 (n - 1 - 0) = 0) (k1 : m 54 (n - 1 - 1) = 0) (r : nr m n 0) (hs : s < 200) : ∃ c' m', Job_draw 77 c = some (0, c') ∧ M_order 77 m = some (0, m') ∧ JV L (n - 2) c' m' ∧ JP (s + 1) c' m' ∧ fC vaC c c' ∧ fM vaM m m' := by
  obtain ⟨q1, q2, q3⟩ := at_num hv (k := 1) (by omega) k1
  obtain ⟨p1, p2, p3⟩ := at_num hv (k := 0) (by omega) k0
  obtain ⟨c1, m1, r1, r2, r3, -, -, -, -, -, -, -, r4, r5⟩ := place1 hp hs r.1 r.2.1 r.2.2.1 r.2.2.2
  have hv1 := JV_fr r4 r5 hv
  obtain ⟨d1, d2⟩ := drop_J hv1 (e := 2) hn 77 (by decide) (by decide)
  refine ⟨_, _, ?_, ?_, JV_drop hv1 hn, JP_fr (fC_up rfl) (fM_up rfl) r3, fC_tr (fC_va r4) (fC_up rfl), fM_tr (fM_va r5) (fM_up rfl)⟩
  · unfold Job_draw
    rw [if_neg (by decide), if_neg (by decide), if_pos (by decide), jpX hv hm 1 1 rfl (by omega) k1, g_bi_s, jpY hv hm 0 0 rfl (by omega) k0, g_bi_s, r1, g_bi_s, d1]
  · unfold M_order M_order_345
    simp (decide := true) only [if_false, if_true]
    unfold M_draw
    rw [needsM m (by decide), g_bi_s, if_pos (by decide), if_pos (by decide)]
    unfold M_draw_31 M_draw_151
    rw [if_neg (by decide), num_in hv.2.2.2.1 hv.2.1 1 1 rfl (by omega), g_bi_s, xM hm q2 q3, g_bi_s, num_in hv.2.2.2.1 hv.2.1 0 0 rfl (by omega), g_bi_s, yM hm p2 p3, g_bi_s, if_pos (by decide), r2, g_bi_s]
    rw [show nd 77 = ((2 : Nat) : Int) by decide, d2, g_bi_s]
theorem goM {w e : Int} (hw : w32 w = w) (h7 : w ≠ 77) (hW : isW w) (he : nd w = e) {m1 : gS} (g : (if w32 (m 49 28) = 0 then some ((0 : Int), m) else M_place (m 49 23) (m 49 24) 1 m) = some (0, m1)) : M_draw w m = M_draw_31 w e m1 := by
  unfold M_draw
  rw [needsM m hw, g_bi_s, if_pos hW, he, hw, if_neg h7]
  by_cases q : w32 (m 49 28) = 0
  · rw [if_pos q] at g ⊢
    rw [show m = m1 from congrArg Prod.snd (Option.some.inj g)]
  · rw [if_neg q] at g ⊢
    rw [g, g_bi_s]
theorem draw_L (hv : JV L n c m) (hm : JM l c m) (hp : JP s c m) (hn : 2 ≤ n) (k0 : m 54 (n - 1 - 0) = 0) (k1 : m 54 (n - 1 - 1) = 0) (r : nr m n 0) (hs0 : 0 < s) (hs : (s : Int) + m 49 28 < 200) : ∃ (t : Nat) (c' m' : gS), Job_draw 76 c = some (0, c') ∧ M_order 76 m = some (0, m') ∧ JV L (n - 2) c' m' ∧ JP t c' m' ∧ fC vaC c c' ∧ fM vaM m m' := by
  obtain ⟨q1, q2, q3⟩ := at_num hv (k := 1) (by omega) k1
  obtain ⟨p1, p2, p3⟩ := at_num hv (k := 0) (by omega) k0
  obtain ⟨t, c1, m1, g1, g2, g3, g4, g5, g6, g7, g8, g9, g10, g11, g12⟩ := goOn_both hp hs0 (fun e => by omega)
  have hv1 := JV_fr g11 g12 hv
  have hm1 := JM_fr (fC_va g11) (fM_va g12) hm
  have x52 : ∀ j, m1 52 j = m 52 j := fun j => g12 52 j rfl
  have x62 : ∀ j, m1 62 j = m 62 j := fun j => g12 62 j rfl
  have eX : ∀ a, pX m1 a = pX m a := fun a => by unfold pX; rw [x62, x62]
  have eY : ∀ a, pY m1 a = pY m a := fun a => by unfold pY; rw [x62, x62]
  obtain ⟨c2, m2, r1, r2, r3, -, -, -, r4, r5⟩ := place0 g3 (by omega) g4 g6 r.1 r.2.1 r.2.2.1 r.2.2.2
  have hv2 := JV_fr r4 r5 hv1
  obtain ⟨d1, d2⟩ := drop_J hv2 (e := 2) hn 76 (by decide) (by decide)
  refine ⟨t + 1, _, _, ?_, ?_, JV_drop hv2 hn, JP_fr (fC_up rfl) (fM_up rfl) r3, fC_tr (fC_va g11) (fC_tr (fC_va r4) (fC_up rfl)), fM_tr (fM_va g12) (fM_tr (fM_va r5) (fM_up rfl))⟩
  · unfold Job_draw
    rw [if_neg (by decide), if_pos (by decide), jpX hv hm 1 1 rfl (by omega) k1, g_bi_s, jpY hv hm 0 0 rfl (by omega) k0, g_bi_s]
    unfold Path_lineTo
    rw [g1, g_bi_s, r1, g_bi_s, g_bi_s, d1]
  · unfold M_order M_order_345
    simp (decide := true) only [if_false, if_true]
    rw [goM (w := 76) (e := ((2 : Nat) : Int)) (by decide) (by decide) (by decide) (by decide) g2]
    unfold M_draw_31 M_draw_151
    rw [if_neg (by decide), num_in hv1.2.2.2.1 hv1.2.1 1 1 rfl (by omega), g_bi_s, x52, xM hm1 q2 q3, g_bi_s, num_in hv1.2.2.2.1 hv1.2.1 0 0 rfl (by omega), g_bi_s, x52, yM hm1 p2 p3, g_bi_s, if_neg (by decide), eX, eY, r2, g_bi_s, d2, g_bi_s]
theorem along_8 (p q r t : Int) {k : Nat} (hk : k ≤ 8) : M_along_77L M_along_199 gFu p q r t k 8 m = some (alg 3 p q r t k 8, m) := by
  have e := along_is (m := m) 3 p q r t k 8 (1000000000000 - 4) (by decide) (by decide) hk
  rw [show 1000000000000 - 4 + 3 + 1 = gFu from rfl, show ((8 : Nat) : Int) = 8 from rfl] at e
  exact e
theorem alongX (hm : JM l c m) {f x y z : Int} (hx : -3000000 ≤ x ∧ x ≤ 3000000) (hy : -3000000 ≤ y ∧ y ≤ 3000000) (hz : -3000000 ≤ z ∧ z ≤ 3000000) {k : Nat} (hk : k ≤ 8) : M_along k f x y z 1 m = some (alg 3 f (pX m x) (pX m y) (pX m z) k 8, m) := by
  unfold M_along M_along_21 M_along_44 M_along_67
  rw [if_neg (by decide), xM hm hx.1 hx.2, g_bi_s, if_neg (by decide), xM hm hy.1 hy.2, g_bi_s, if_neg (by decide), xM hm hz.1 hz.2, g_bi_s]
  rw [along_8 _ _ _ _ hk]
theorem alongY (hm : JM l c m) {f x y z : Int} (hx : -3000000 ≤ x ∧ x ≤ 3000000) (hy : -3000000 ≤ y ∧ y ≤ 3000000) (hz : -3000000 ≤ z ∧ z ≤ 3000000) {k : Nat} (hk : k ≤ 8) : M_along k f x y z 0 m = some (alg 3 f (pY m x) (pY m y) (pY m z) k 8, m) := by
  unfold M_along M_along_21 M_along_44 M_along_67
  rw [if_pos (by decide), yM hm hx.1 hx.2, g_bi_s, if_pos (by decide), yM hm hy.1 hy.2, g_bi_s, if_pos (by decide), yM hm hz.1 hz.2, g_bi_s]
  rw [along_8 _ _ _ _ hk]
theorem adds_both {K : Int → gS → gA} {l2 fx fy x5 x3 x1 y4 y2 y0 : Int} (hn : 6 ≤ n) (a5 : -3000000 ≤ x5 ∧ x5 ≤ 3000000) (a3 : -3000000 ≤ x3 ∧ x3 ≤ 3000000) (a1 : -3000000 ≤ x1 ∧ x1 ≤ 3000000) (b4 : -3000000 ≤ y4 ∧ y4 ≤ 3000000) (b2 : -3000000 ≤ y2 ∧ y2 ≤ 3000000) (b0 : -3000000 ≤ y0 ∧ y0 ≤ 3000000) {gx gy : Nat → Int} (bx : ∀ j, 1 ≤ j → j ≤ 8 → -100000 ≤ gx (3 * j) ∧ gx (3 * j) ≤ 100000) (by_ : ∀ j, 1 ≤ j → j ≤ 8 → -100000 ≤ gy (3 * j) ∧ gy (3 * j) ≤ 100000) : ∀ (d k N t : Nat) (c m : gS), k + d = 9 → 1 ≤ k → JV L n c m → JM l c m → JP t c m → 0 < t → t + d ≤ 200 → m 49 28 = 0 → c 32 = gx → c 33 = gy → m 52 (n - 1 - 5) = x5 → m 52 (n - 1 - 3) = x3 → m 52 (n - 1 - 1) = x1 → m 52 (n - 1 - 4) = y4 → m 52 (n - 1 - 2) = y2 → m 52 (n - 1 - 0) = y0 → (∀ j, 1 ≤ j → j ≤ 8 → gx (3 * j) = alg 3 fx (pX m x5) (pX m x3) (pX m x1) j 8) → (∀ j, 1 ≤ j → j ≤ 8 → gy (3 * j) = alg 3 fy (pY m y4) (pY m y2) (pY m y0) j 8) → ∃ c' m', Path_curve_84L (N + d + 1) ((3 * k : Nat) : Int) c = some (0, c') ∧ M_draw_51L K (N + d + 1) l2 fx fy k m = K l2 m' ∧ JP (t + d) c' m' ∧ fC aC c c' ∧ fM aM m m' := by
  intro d
  induction d with
  | zero =>
    intro k N t c m hk hk1 hv hm hp ht ht2 hcl e32 e33 u5 u3 u1 u4 u2 u0 ex ey
    refine ⟨c, m, ?_, ?_, hp, fC_rf _ _, fM_rf _ _⟩
    · show Path_curve_84 _ _ _ = _
      unfold Path_curve_84
      rw [w_nat (by omega), if_pos (by omega)]
    · show M_draw_51 _ K _ _ _ _ _ = _
      unfold M_draw_51
      rw [w_nat (by omega), if_pos (by omega)]
  | succ d ih =>
    intro k N t c m hk hk1 hv hm hp ht ht2 hcl e32 e33 u5 u3 u1 u4 u2 u0 ex ey
    have gxk := bx k hk1 (by omega)
    have gyk := by_ k hk1 (by omega)
    obtain ⟨c1, m1, r1, r2, r3, r4, r5, r6, r7, r8⟩ := place0 hp (by omega) ht hcl gxk.1 gxk.2 gyk.1 gyk.2
    have x52 : ∀ j, m1 52 j = m 52 j := fun j => r8 52 j rfl
    have x62 : ∀ j, m1 62 j = m 62 j := fun j => r8 62 j rfl
    have eX : ∀ a, pX m1 a = pX m a := fun a => by unfold pX; rw [x62, x62]
    have eY : ∀ a, pY m1 a = pY m a := fun a => by unfold pY; rw [x62, x62]
    obtain ⟨c', m', i1, i2, i3, i4, i5⟩ := ih (k + 1) N (t + 1) c1 m1 (by omega) (by omega) (JV_fr r7 r8 hv) (JM_fr (fC_va r7) (fM_va r8) hm) r3 (by omega) (by omega) r4 (by rw [r5]; exact e32) (by rw [r6]; exact e33) (by rw [x52]; exact u5) (by rw [x52]; exact u3) (by rw [x52]; exact u1) (by rw [x52]; exact u4) (by rw [x52]; exact u2) (by rw [x52]; exact u0) (by simp only [eX]; exact ex) (by simp only [eY]; exact ey)
    refine ⟨c', m', ?_, ?_, by rw [show t + (d + 1) = t + 1 + d by omega]; exact i3, fC_tr r7 i4, fM_tr r8 i5⟩
    · show Path_curve_84 (Path_curve_84L (N + d + 1)) _ _ = _
      unfold Path_curve_84
      rw [w_nat (by omega), if_neg (by omega), if_pos (by omega), if_pos (by omega), Int.toNat_natCast, e32, e33, r1, g_bi_s]
      exact i1
    · show M_draw_51 (M_draw_51L K (N + d + 1)) K _ _ _ _ _ = _
      unfold M_draw_51
      have h3 := hv.2.2.2.1
      have h1 := hv.2.1
      rw [w_nat (by omega), if_neg (by omega), num_in h3 h1 5 5 rfl (by omega), g_bi_s, num_in h3 h1 3 3 rfl (by omega), g_bi_s, num_in h3 h1 1 1 rfl (by omega), g_bi_s, u5, u3, u1, alongX hm a5 a3 a1 (by omega), g_bi_s, num_in h3 h1 4 4 rfl (by omega), g_bi_s, num_in h3 h1 2 2 rfl (by omega), g_bi_s, num_in h3 h1 0 0 rfl (by omega), g_bi_s, u4, u2, u0, alongY hm b4 b2 b0 (by omega), g_bi_s, ← ex k hk1 (by omega), ← ey k hk1 (by omega), r2, g_bi_s]
      exact i2
theorem bend_is (a : Int) (k : Nat) (ha : a = k) (hk : k ≤ 3) (x y : Int) : Path_bend a x y c = some (0, g_up (g_up c 32 (8 * k) x) 33 (8 * k) y) := by
  subst ha
  have e : w32 ((k : Int) * 8) = ((8 * k : Nat) : Int) := by rw [show (k : Int) * 8 = ((8 * k : Nat) : Int) by omega, w_nat (by omega)]
  unfold Path_bend
  rw [e, if_pos (by omega), g_le_s, if_pos (by omega), g_le_s, Int.toNat_natCast]
theorem draw_C (hv : JV L n c m) (hm : JM l c m) (hp : JP s c m) (hn : 6 ≤ n) (kz : ∀ k, k < 6 → m 54 (n - 1 - k) = 0) (q0 : nr m n 0) (q2 : nr m n 2) (q4 : nr m n 4) (hs0 : 0 < s) (hs : (s : Int) + m 49 28 + 8 ≤ 200) : ∃ (t : Nat) (c' m' : gS), Job_draw 67 c = some (0, c') ∧ M_order 67 m = some (0, m') ∧ JV L (n - 6) c' m' ∧ JP t c' m' ∧ fC vaC c c' ∧ fM vaM m m' := by
  obtain ⟨-, x5, x5'⟩ := at_num hv (k := 5) (by omega) (kz 5 (by omega))
  obtain ⟨-, x4, x4'⟩ := at_num hv (k := 4) (by omega) (kz 4 (by omega))
  obtain ⟨-, x3, x3'⟩ := at_num hv (k := 3) (by omega) (kz 3 (by omega))
  obtain ⟨-, x2, x2'⟩ := at_num hv (k := 2) (by omega) (kz 2 (by omega))
  obtain ⟨-, x1, x1'⟩ := at_num hv (k := 1) (by omega) (kz 1 (by omega))
  obtain ⟨-, x0, x0'⟩ := at_num hv (k := 0) (by omega) (kz 0 (by omega))
  have up2 : ∀ (x : gS) (k : Nat) (a b : Int), fC aC c x → fC aC c (g_up (g_up x 32 k a) 33 k b) := fun x k a b h => fC_tr h (fC_tr (fC_up rfl) (fC_up rfl))
  obtain ⟨cA, hA⟩ : ∃ x, x = g_up (g_up c 32 8 (pX m (m 52 (n - 1 - 5)))) 33 8 (pY m (m 52 (n - 1 - 4))) := ⟨_, rfl⟩
  have fA : fC aC c cA := by rw [hA]; exact up2 c 8 _ _ (fC_rf _ _)
  obtain ⟨cB, hB⟩ : ∃ x, x = g_up (g_up cA 32 16 (pX m (m 52 (n - 1 - 3)))) 33 16 (pY m (m 52 (n - 1 - 2))) := ⟨_, rfl⟩
  have fB : fC aC c cB := by rw [hB]; exact up2 cA 16 _ _ fA
  obtain ⟨cD, hD⟩ : ∃ x, x = g_up (g_up cB 32 24 (pX m (m 52 (n - 1 - 1)))) 33 24 (pY m (m 52 (n - 1 - 0))) := ⟨_, rfl⟩
  have fD : fC aC c cD := by rw [hD]; exact up2 cB 24 _ _ fB
  have hpD : JP s cD m := by
    refine JP_congr ?_ ?_ ?_ ?_ (fun _ _ _ => rfl) rfl rfl rfl hp <;> rw [hD, hB, hA] <;> simp (disch := decide) only [g_up_ne]
  obtain ⟨t, c1, m1, g1, g2, g3, g4, g5, g6, g7, g8, g9, g10, g11, g12⟩ := goOn_both hpD hs0 (fun e => by omega)
  have f1 : fC aC c c1 := fC_tr fD g11
  have hv1 := JV_fr f1 g12 hv
  have hm1 := JM_fr (fC_va f1) (fM_va g12) hm
  have x52 : ∀ j, m1 52 j = m 52 j := fun j => g12 52 j rfl
  have x62 : ∀ j, m1 62 j = m 62 j := fun j => g12 62 j rfl
  have eX : ∀ a, pX m1 a = pX m a := fun a => by unfold pX; rw [x62, x62]
  have eY : ∀ a, pY m1 a = pY m a := fun a => by unfold pY; rw [x62, x62]
  obtain ⟨c2, k1, k2, k3, k4⟩ := cv_all (K := Path_curve_82) (c := g_up (g_up c1 32 0 (c1 29 (t - 1))) 33 0 (c1 30 (t - 1)))
  have f2 : fC aC c c2 := by
    intro q hq
    have hq' : ¬ (28 ≤ q ∧ q ≤ 33) := by
      intro x
      unfold aC at hq
      rw [decide_eq_true x.1, decide_eq_true x.2] at hq
      cases hq
    rw [k4 q (by omega) (by omega), g_up_ne (by omega), g_up_ne (by omega)]
    exact f1 q hq
  have hp2 : JP t c2 m1 := by
    refine JP_congr ?_ ?_ ?_ ?_ (fun _ _ _ => rfl) rfl rfl rfl g3 <;> rw [k4 _ (by decide) (by decide), g_up_ne (by decide), g_up_ne (by decide)]
  have hv2 := JV_fr f2 g12 hv
  have hm2 := JM_fr (fC_va f2) (fM_va g12) hm
  have pt := g3.2.2.2.1 (t - 1) (by omega)
  have G32 : ∀ j, g_up (g_up c1 32 0 (c1 29 (t - 1))) 33 0 (c1 30 (t - 1)) 32 j = if j = 0 then c1 29 (t - 1) else cD 32 j := by
    intro j
    rw [g_up_ne (by decide), g_up_at, g9]
    by_cases e : j = 0
    · rw [if_pos ⟨rfl, e⟩, if_pos e]
    · rw [if_neg (fun x => e x.2), if_neg e]
  have G33 : ∀ j, g_up (g_up c1 32 0 (c1 29 (t - 1))) 33 0 (c1 30 (t - 1)) 33 j = if j = 0 then c1 30 (t - 1) else cD 33 j := by
    intro j
    rw [g_up_at, g_up_ne (by decide), g10]
    by_cases e : j = 0
    · rw [if_pos ⟨rfl, e⟩, if_pos e]
    · rw [if_neg (fun x => e x.2), if_neg e]
  have D8 : cD 32 8 = pX m (m 52 (n - 1 - 5)) ∧ cD 33 8 = pY m (m 52 (n - 1 - 4)) := by
    rw [hD, hB, hA]; simp (disch := decide) only [g_up_ne, up_n, up_y]; exact ⟨trivial, trivial⟩
  have D16 : cD 32 16 = pX m (m 52 (n - 1 - 3)) ∧ cD 33 16 = pY m (m 52 (n - 1 - 2)) := by
    rw [hD, hB]; simp (disch := decide) only [g_up_ne, up_n, up_y]; exact ⟨trivial, trivial⟩
  have D24 : cD 32 24 = pX m (m 52 (n - 1 - 1)) ∧ cD 33 24 = pY m (m 52 (n - 1 - 0)) := by
    rw [hD]; simp (disch := decide) only [g_up_ne, up_n, up_y]; exact ⟨trivial, trivial⟩
  have ax : ∀ j, 1 ≤ j → j ≤ 8 → c2 32 (3 * j) = alg 3 (m1 49 23) (pX m1 (m1 52 (n - 1 - 5))) (pX m1 (m1 52 (n - 1 - 3))) (pX m1 (m1 52 (n - 1 - 1))) j 8 := by
    intro j j1 j2
    rw [k2, hr_all _ j1 j2, G32, G32, G32, G32, if_pos rfl, if_neg (by decide), if_neg (by decide), if_neg (by decide), D8.1, D16.1, D24.1, g7, eX, eX, eX, x52, x52, x52]
  have ay : ∀ j, 1 ≤ j → j ≤ 8 → c2 33 (3 * j) = alg 3 (m1 49 24) (pY m1 (m1 52 (n - 1 - 4))) (pY m1 (m1 52 (n - 1 - 2))) (pY m1 (m1 52 (n - 1 - 0))) j 8 := by
    intro j j1 j2
    rw [k3, hr_all _ j1 j2, G33, G33, G33, G33, if_pos rfl, if_neg (by decide), if_neg (by decide), if_neg (by decide), D8.2, D16.2, D24.2, g8, eY, eY, eY, x52, x52, x52]
  have bx : ∀ j, 1 ≤ j → j ≤ 8 → -100000 ≤ c2 32 (3 * j) ∧ c2 32 (3 * j) ≤ 100000 := by
    intro j j1 j2
    rw [ax j j1 j2, eX, eX, eX, x52, x52, x52, g7]
    exact alg_bd (B := 100000) (by decide) 3 _ _ _ _ _ _ (by omega) ⟨q4.1, q4.2.1⟩ ⟨q2.1, q2.2.1⟩ ⟨q0.1, q0.2.1⟩
  have by_ : ∀ j, 1 ≤ j → j ≤ 8 → -100000 ≤ c2 33 (3 * j) ∧ c2 33 (3 * j) ≤ 100000 := by
    intro j j1 j2
    rw [ay j j1 j2, eY, eY, eY, x52, x52, x52, g8]
    exact alg_bd (B := 100000) (by decide) 3 _ _ _ _ _ _ (by omega) ⟨q4.2.2.1, q4.2.2.2⟩ ⟨q2.2.2.1, q2.2.2.2⟩ ⟨q0.2.2.1, q0.2.2.2⟩
  obtain ⟨c3, m3, w1, w2, w3, w4, w5⟩ := adds_both (K := M_draw_116) (l2 := ((6 : Nat) : Int)) (fx := m1 49 23) (fy := m1 49 24) (L := L) (l := l) hn (by rw [x52]; exact ⟨x5, x5'⟩) (by rw [x52]; exact ⟨x3, x3'⟩) (by rw [x52]; exact ⟨x1, x1'⟩) (by rw [x52]; exact ⟨x4, x4'⟩) (by rw [x52]; exact ⟨x2, x2'⟩) (by rw [x52]; exact ⟨x0, x0'⟩) bx by_ 8 1 (1000000000000 - 9) t c2 m1 (by omega) (by omega) hv2 hm2 hp2 g4 (by omega) g6 rfl rfl rfl rfl rfl rfl rfl rfl ax ay
  rw [show 1000000000000 - 9 + 8 + 1 = gFu from rfl] at w1 w2
  have hv3 := JV_fr w4 w5 hv2
  obtain ⟨d1, d2⟩ := drop_J hv3 (e := 6) hn 67 (by decide) (by decide)
  have eC : Path_curve cD = some (0, c3) := by
    unfold Path_curve Math_max
    have e5 : c1 28 5 = t := g3.2.1
    have ht := g3.1
    rw [g1, g_bi_s, e5, show (t : Int) - 1 = ((t - 1 : Nat) : Int) by omega, w_nat (by omega)]
    have em : (if w32 0 < ((t - 1 : Nat) : Int) then some (((t - 1 : Nat) : Int), c1) else some ((0 : Int), c1)) = some (((t - 1 : Nat) : Int), c1) := by
      rw [show w32 0 = 0 from rfl]
      by_cases q : (0 : Int) < ((t - 1 : Nat) : Int)
      · rw [if_pos q]
      · rw [if_neg q, show ((t - 1 : Nat) : Int) = 0 by omega]
    rw [em, g_bi_s, w_nat (by omega), if_pos (by omega), if_pos (by omega), Int.toNat_natCast, bend_is 0 0 rfl (by omega), g_bi_s]
    exact k1.trans w1
  refine ⟨t + 8, _, _, ?_, ?_, JV_drop hv3 hn, JP_fr (fC_up rfl) (fM_up rfl) w3, fC_tr (fC_va f2) (fC_tr (fC_va w4) (fC_up rfl)), fM_tr (fM_va g12) (fM_tr (fM_va w5) (fM_up rfl))⟩
  · have hvA := JV_fr fA (fM_rf _ m) hv
    have hmA := JM_fr (fC_va fA) (fM_rf _ m) hm
    have hvB := JV_fr fB (fM_rf _ m) hv
    have hmB := JM_fr (fC_va fB) (fM_rf _ m) hm
    unfold Job_draw
    rw [if_pos (by decide), jpX hv hm 5 5 rfl (by omega) (kz 5 (by omega)), g_bi_s, jpY hv hm 4 4 rfl (by omega) (kz 4 (by omega)), g_bi_s, bend_is 1 1 rfl (by omega), g_bi_s, ← hA, jpX hvA hmA 3 3 rfl (by omega) (kz 3 (by omega)), g_bi_s, jpY hvA hmA 2 2 rfl (by omega) (kz 2 (by omega)), g_bi_s, bend_is 2 2 rfl (by omega), g_bi_s, ← hB, jpX hvB hmB 1 1 rfl (by omega) (kz 1 (by omega)), g_bi_s, jpY hvB hmB 0 0 rfl (by omega) (kz 0 (by omega)), g_bi_s, bend_is 3 3 rfl (by omega), g_bi_s, ← hD, eC, g_bi_s, d1]
  · unfold M_order M_order_345
    simp (decide := true) only [if_false, if_true]
    rw [goM (w := 67) (e := ((6 : Nat) : Int)) (by decide) (by decide) (by decide) (by decide) g2]
    unfold M_draw_31
    rw [if_pos (by decide), g_le_s, g_le_s, show (1 : Int) = ((1 : Nat) : Int) from rfl, w2]
    unfold M_draw_116
    rw [d2, g_bi_s]
end DR

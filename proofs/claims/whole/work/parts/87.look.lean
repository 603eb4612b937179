/-! the model looks at every pixel -/
/-- the model's path -/
def PM (n : Nat) (X Y B : Nat → Int) (m : gS) : Prop := n ≤ 200 ∧ m 49 22 = n ∧ m 59 = X ∧ m 60 = Y ∧ m 61 = B ∧ ∀ i, i < n → (B i = 0 ∨ B i = 1) ∧ (-100000 ≤ X i ∧ X i ≤ 100000) ∧ -100000 ≤ Y i ∧ Y i ≤ 100000
section LK
variable {n : Nat} {X Y B : Nat → Int} {c m m' : gS} {odd : Int}
theorem JP.pm {s : Nat} (h : JP s c m) : PM s (m 59) (m 60) (m 61) m := ⟨h.1, h.2.2.1, rfl, rfl, rfl, fun i hi => (h.2.2.2.1 i hi).2.2.2⟩
theorem meets_is {x0 y0 x1 y1 cx cy : Int} (s : gS) (h1 : -100000 ≤ x0 ∧ x0 ≤ 100000) (h2 : -100000 ≤ y0 ∧ y0 ≤ 100000) (h3 : -100000 ≤ x1 ∧ x1 ≤ 100000) (h4 : -100000 ≤ y1 ∧ y1 ≤ 100000) (h5 : 0 ≤ cx ∧ cx ≤ 1000) (h6 : 0 ≤ cy ∧ cy ≤ 1000) : M_meets x0 y0 x1 y1 cx cy s = some (mee x0 y0 x1 y1 cx cy, s) := by
  have a1 := mul_bd (A := 200000) (B := 200000) (C := 40000000000) (by omega) (by omega) (by omega) (by omega) rfl (x := cy - y0) (y := x1 - x0)
  have a2 := mul_bd (A := 200000) (B := 200000) (C := 40000000000) (by omega) (by omega) (by omega) (by omega) rfl (x := cx - x0) (y := y1 - y0)
  have a3 := mul_bd (A := 200000) (B := 200000) (C := 40000000000) (by omega) (by omega) (by omega) (by omega) rfl (x := cy - y1) (y := x0 - x1)
  have a4 := mul_bd (A := 200000) (B := 200000) (C := 40000000000) (by omega) (by omega) (by omega) (by omega) rfl (x := cx - x1) (y := y0 - y1)
  have e1 : ∀ {u v : Int}, -(40000000000 : Int) ≤ u → u ≤ 40000000000 → -(40000000000 : Int) ≤ v → v ≤ 40000000000 → (0 < w32 (l_cmp u v) ↔ ¬ u ≤ v) := by
    intro u v q1 q2 q3 q4
    rw [l_cmp_s (w64_id (by omega) (by omega)) (w64_id (by omega) (by omega))]
    by_cases q : v < u
    · rw [if_pos q]; exact ⟨fun _ => by omega, fun _ => by decide⟩
    · rw [if_neg q]
      constructor
      · intro x; split at x <;> omega
      · intro x; omega
  unfold M_meets M_meets_42 mee
  rw [w32_id (z := cy) (by omega) (by omega), w32_id (z := y0) (by omega) (by omega), w32_id (z := y1) (by omega) (by omega), w32_id (z := cy - y0) (by omega) (by omega), w32_id (z := x1 - x0) (by omega) (by omega), w32_id (z := cx - x0) (by omega) (by omega), w32_id (z := y1 - y0) (by omega) (by omega), w32_id (z := cy - y1) (by omega) (by omega), w32_id (z := x0 - x1) (by omega) (by omega), w32_id (z := cx - x1) (by omega) (by omega), w32_id (z := y0 - y1) (by omega) (by omega)]
  have f1 := e1 a1.1 a1.2 a2.1 a2.2
  have f2 := e1 a3.1 a3.2 a4.1 a4.2
  generalize w32 (l_cmp ((cy - y0) * (x1 - x0)) ((cx - x0) * (y1 - y0))) = z1 at f1 ⊢
  generalize w32 (l_cmp ((cy - y1) * (x0 - x1)) ((cx - x1) * (y0 - y1))) = z2 at f2 ⊢
  generalize (cy - y0) * (x1 - x0) = p1 at f1 ⊢
  generalize (cx - x0) * (y1 - y0) = p2 at f1 ⊢
  generalize (cy - y1) * (x0 - x1) = p3 at f2 ⊢
  generalize (cx - x1) * (y0 - y1) = p4 at f2 ⊢
  clear a1 a2 a3 a4 e1
  have u42 : (if cy < y1 then some ((0 : Int), s) else if y0 ≤ cy then some (0, s) else if 0 < z2 then some (0, s) else some (-1, s)) = some (if y1 ≤ cy ∧ cy < y0 then (if p3 ≤ p4 then -1 else 0) else 0, s) := by
    by_cases q1 : cy < y1
    · rw [if_pos q1, if_neg (fun x => absurd x.1 (Int.not_le.mpr q1))]
    · rw [if_neg q1]
      by_cases q2 : y0 ≤ cy
      · rw [if_pos q2, if_neg (fun x => absurd x.2 (Int.not_lt.mpr q2))]
      · rw [if_neg q2, if_pos (show y1 ≤ cy ∧ cy < y0 from ⟨Int.not_lt.mp q1, Int.not_le.mp q2⟩)]
        by_cases q3 : p3 ≤ p4
        · rw [if_neg (fun x => f2.1 x q3), if_pos q3]
        · rw [if_pos (f2.2 q3), if_neg q3]
  rw [u42]
  by_cases q1 : cy < y0
  · rw [if_pos q1, if_neg (fun x : y0 ≤ cy ∧ cy < y1 => absurd x.1 (Int.not_le.mpr q1))]
  · rw [if_neg q1]
    by_cases q2 : y1 ≤ cy
    · rw [if_pos q2, if_neg (fun x : y0 ≤ cy ∧ cy < y1 => absurd x.2 (Int.not_lt.mpr q2))]
    · rw [if_neg q2, if_pos (show y0 ≤ cy ∧ cy < y1 from ⟨Int.not_lt.mp q1, Int.not_le.mp q2⟩)]
      by_cases q3 : p1 ≤ p2
      · rw [if_neg (fun x => f1.1 x q3), if_pos q3]
      · rw [if_pos (f1.2 q3), if_neg q3]
theorem in_step (h : PM n X Y B m) {K : Int → Int → Int → Int → Int → Int → Int → gS → gA} {K2 : Int → Int → Int → gS → gA} {cx cy wy su mm : Int} (c0 : 0 ≤ cx ∧ cx ≤ 1000) (c1 : 0 ≤ cy ∧ cy ≤ 1000) {k : Nat} (hk : k < n) : M_isIn_12 K K2 cx cy wy su mm (fb B k) k m = K cx cy wy (su + me X Y B n cx cy k) (mm + if me X Y B n cx cy k = 0 then 0 else 1) (fb B (k + 1)) ((k + 1 : Nat) : Int) m := by
  obtain ⟨hn, h5, hX, hY, hB, ha⟩ := id h
  have ht := tow_lt (B := B) hk
  have hf := fb_le B k
  have bk : (0 : Int) ≤ (k : Int) ∧ (k : Int) < 200 := ⟨by omega, by omega⟩
  have bt : (0 : Int) ≤ ((tow B n k : Nat) : Int) ∧ ((tow B n k : Nat) : Int) < 200 := ⟨by omega, by omega⟩
  have hk2 : k < 2147483648 := by omega
  have ht2 : tow B n k < 2147483648 := by omega
  have hn2 : n < 2147483648 := by omega
  obtain ⟨k4, k5, k6⟩ := ha k hk
  obtain ⟨t4, t5, t6⟩ := ha (tow B n k) ht
  have sA : M_isIn_12 K K2 cx cy wy su mm (fb B k) k m = M_isIn_35 K cx cy wy su mm (fb B (k + 1)) k m := by
    unfold M_isIn_12
    rw [h5, w_nat hn2, w_nat hk2, if_neg (by omega), if_pos bk, Int.toNat_natCast, hB, w32_01 k4]
    simp only [fb]
    by_cases e : B k = 0
    · rw [if_pos e, if_pos e]
    · rw [if_neg e, if_neg e]
  have sB : M_isIn_35 K cx cy wy su mm (fb B (k + 1)) k m = M_isIn_79 K cx cy wy su mm (fb B (k + 1)) k (tow B n k : Nat) m := by
    unfold M_isIn_35 M_isIn_58 M_isIn_63
    rw [h5, w_nat hn2, show (k : Int) + 1 = ((k + 1 : Nat) : Int) by omega, w_nat (by omega)]
    unfold tow
    by_cases e : k + 1 = n
    · rw [if_pos (by omega), if_neg (by decide), if_pos (Or.inl e)]
    · rw [if_neg (by omega), if_pos (by omega), Int.toNat_natCast, hB, w32_01 (ha (k + 1) (by omega)).1]
      by_cases e2 : B (k + 1) = 0
      · rw [if_pos e2, if_pos (by decide), if_neg (by omega)]
      · rw [if_neg e2, if_neg (by decide), if_pos (Or.inr e2)]
  rw [sA, sB]
  unfold M_isIn_79 M_isIn_135
  rw [w_nat hk2, w_nat ht2, if_pos bk, if_pos bk, if_pos bt, if_pos bt, Int.toNat_natCast, Int.toNat_natCast, hX, hY, meets_is m k5 k6 t5 t6 c0 c1, g_bi_s, g_le_s]
  show (if w32 (me X Y B n cx cy k) = 0 then _ else _) = _
  have m3 : w32 (me X Y B n cx cy k) = me X Y B n cx cy k := by
    have := mee_3 (X k) (Y k) (X (tow B n k)) (Y (tow B n k)) cx cy
    unfold me
    rcases this with e | e | e <;> rw [e] <;> rfl
  rw [m3]
  by_cases e : me X Y B n cx cy k = 0
  · rw [if_pos e, if_pos e]
    rfl
  · rw [if_neg e, if_neg e]
    rfl
theorem in_loop {cx cy wy : Int} {K2 : Int → Int → Int → gS → gA} (h : PM n X Y B m) (c0 : 0 ≤ cx ∧ cx ≤ 1000) (c1 : 0 ≤ cy ∧ cy ≤ 1000) : ∀ (d k N : Nat), k + d = n → M_isIn_12L K2 (N + d + 1) cx cy wy (sm X Y B n cx cy k) (mn X Y B n cx cy k) (fb B k) k m = K2 wy (sm X Y B n cx cy n) (mn X Y B n cx cy n) m := by
  have hn := h.1
  intro d
  induction d with
  | zero =>
    intro k N hk
    have : k = n := by omega
    subst this
    show M_isIn_12 _ K2 _ _ _ _ _ _ _ _ = _
    unfold M_isIn_12
    rw [h.2.1, if_pos (Int.le_refl _)]
  | succ d ih =>
    intro k N hk
    show M_isIn_12 (M_isIn_12L K2 (N + d + 1)) K2 _ _ _ _ _ _ _ _ = _
    rw [in_step h c0 c1 (by omega)]
    exact ih (k + 1) N (by omega)
theorem isIn_is (h : PM n X Y B m) {cx cy : Int} (c0 : 0 ≤ cx ∧ cx ≤ 1000) (c1 : 0 ≤ cy ∧ cy ≤ 1000) (ho : odd = 0 ∨ odd = 1) : M_isIn cx cy (1 - odd) m = some (if isI X Y B n odd cx cy then 1 else 0, m) := by
  have hn := h.1
  have e := in_loop (K2 := M_isIn_144) (wy := 1 - odd) h c0 c1 n 0 (1000000000000 - n - 1) (by omega)
  rw [show 1000000000000 - n - 1 + n + 1 = gFu by show _ = 1000000000000; omega] at e
  have b := sm_bd X Y B n cx cy n
  refine (show M_isIn cx cy (1 - odd) m = M_isIn_144 (1 - odd) (sm X Y B n cx cy n) (mn X Y B n cx cy n) m from e).trans ?_
  clear e
  unfold M_isIn_144 isI
  generalize sm X Y B n cx cy n = S at b ⊢
  generalize mn X Y B n cx cy n = R at b ⊢
  rcases ho with e | e
  · subst e
    rw [if_neg (show ¬ w32 (1 - 0) = 0 by decide), w32_id (z := S) (by omega) (by omega), if_pos (show (0 : Int) = 0 from rfl)]
    by_cases q : S = 0
    · rw [if_pos q, decide_eq_false (fun x => x q)]
      rfl
    · rw [if_neg q, decide_eq_true q]
      rfl
  · subst e
    rw [if_pos (show w32 (1 - 1) = 0 by decide), i_rem_nn (by omega) (by omega) (by decide) (by decide), w32_id (z := R % 2) (by omega) (by omega), if_neg (show ¬ (1 : Int) = 0 by decide)]
    by_cases q : R % 2 = 1
    · rw [if_pos q, decide_eq_true (by omega)]
      rfl
    · rw [if_neg q, decide_eq_false (by omega)]
      rfl
/-- a stretch begins -/
def ru (f : Nat → Bool) (x : Nat) : Bool := f x && !(match x with | 0 => false | k + 1 => f k)
def bi (b : Bool) : Int := if b then 1 else 0
theorem bi_01 (b : Bool) : bi b = 0 ∨ bi b = 1 := by cases b <;> simp [bi]
def bef (f : Nat → Bool) : Nat → Int
  | 0 => 0
  | k + 1 => bi (f k)
theorem bef_01 (f : Nat → Bool) (x : Nat) : bef f x = 0 ∨ bef f x = 1 := by
  cases x with
  | zero => exact Or.inl rfl
  | succ k => exact bi_01 _
/-- pixels inside the path and the clip -/
def gin (C X Y B : Nat → Int) (n : Nat) (odd : Int) (y x : Nat) : Bool := decide (C (64 * y + x) = 1) && isI X Y B n odd (4 * (x : Int) + 2) (4 * (y : Int) + 2)
def PC (n : Nat) (X Y B C : Nat → Int) (m : gS) : Prop := PM n X Y B m ∧ m 63 = C ∧ ∀ j, j < 3072 → C j = 0 ∨ C j = 1
variable {C : Nat → Int}
theorem PC_up (h : PC n X Y B C m) {j : Nat} {v : Int} : PC n X Y B C (g_up m 65 j v) := by
  obtain ⟨⟨h1, h2, h3, h4, h5, h6⟩, h7, h8⟩ := h
  refine ⟨⟨h1, ?_, ?_, ?_, ?_, h6⟩, ?_, h8⟩
  · rw [g_up_ne (by decide)]; exact h2
  · rw [g_up_ne (by decide)]; exact h3
  · rw [g_up_ne (by decide)]; exact h4
  · rw [g_up_ne (by decide)]; exact h5
  · rw [g_up_ne (by decide)]; exact h7
theorem lk_step (h : PC n X Y B C m) (ho : odd = 0 ∨ odd = 1) {K : Int → Int → Int → Int → Int → gS → gA} {K2 : Int → Int → Int → gS → gA} {st : Int} {y x : Nat} (hy : y < 48) (hx : x < 64) : M_look_16 K K2 (1 - odd) st y (bef (gin C X Y B n odd y) x) x m = K (1 - odd) (st + ((ru (gin C X Y B n odd y) x).toNat : Nat)) y (bef (gin C X Y B n odd y) (x + 1)) ((x + 1 : Nat) : Int) (g_up m 65 (64 * y + x) (bi (gin C X Y B n odd y x))) := by
  obtain ⟨hp, hC, h01⟩ := id h
  have ei : 64 * (y : Int) + x = ((64 * y + x : Nat) : Int) := by omega
  have hj : 64 * y + x < 2147483648 := by omega
  have bj : (0 : Int) ≤ ((64 * y + x : Nat) : Int) ∧ ((64 * y + x : Nat) : Int) < 15360 := ⟨by omega, by omega⟩
  have bj2 : (0 : Int) ≤ ((64 * y + x : Nat) : Int) ∧ ((64 * y + x : Nat) : Int) < 3072 := ⟨by omega, by omega⟩
  have hx2 : x < 2147483648 := by omega
  have hc := h01 (64 * y + x) (by omega)
  have ii := isIn_is hp (cx := 4 * (x : Int) + 2) (cy := 4 * (y : Int) + 2) ⟨by omega, by omega⟩ ⟨by omega, by omega⟩ ho
  have key : ∀ v : Int, v = bi (gin C X Y B n odd y x) → M_look_72 K (1 - odd) st y (bef (gin C X Y B n odd y) x) x ((64 * y + x : Nat) : Int) ((64 * y + x : Nat) : Int) v m = K (1 - odd) (st + ((ru (gin C X Y B n odd y) x).toNat : Nat)) y (bef (gin C X Y B n odd y) (x + 1)) ((x + 1 : Nat) : Int) (g_up m 65 (64 * y + x) (bi (gin C X Y B n odd y x))) := by
    intro v hv
    subst hv
    unfold M_look_72 M_look_93 M_look_94
    rw [w_nat hj, if_pos bj2, g_le_s, if_pos bj2, Int.toNat_natCast, i_nar_01 (bi_01 _), up_y, w32_01 (bi_01 _), w32_01 (bef_01 _ _)]
    have e2 : bef (gin C X Y B n odd y) (x + 1) = bi (gin C X Y B n odd y x) := rfl
    have e3 : (x : Int) + 1 = ((x + 1 : Nat) : Int) := rfl
    rw [e2, e3]
    cases hg : gin C X Y B n odd y x with
    | false =>
      have er : ru (gin C X Y B n odd y) x = false := by unfold ru; rw [hg]; rfl
      rw [er, show bi false = 0 from rfl, if_pos rfl, g_le_s, if_pos bj2, g_le_s]
      rfl
    | true =>
      rw [show bi true = 1 from rfl, if_neg (by decide)]
      cases x with
      | zero =>
        have er : ru (gin C X Y B n odd y) 0 = true := by unfold ru; rw [hg]; rfl
        rw [er, show bef (gin C X Y B n odd y) 0 = 0 from rfl, if_pos rfl, g_le_s, if_pos bj2, g_le_s]
        rfl
      | succ x =>
        have er : ru (gin C X Y B n odd y) (x + 1) = !(gin C X Y B n odd y x) := by unfold ru; rw [hg]; rfl
        rw [er, show bef (gin C X Y B n odd y) (x + 1) = bi (gin C X Y B n odd y x) from rfl]
        cases gin C X Y B n odd y x with
        | false =>
          rw [show bi false = 0 from rfl, if_pos rfl, g_le_s, if_pos bj2, g_le_s]
          rfl
        | true =>
          rw [show bi true = 1 from rfl, if_neg (by decide), g_le_s, if_pos bj2, g_le_s]
          rfl
  unfold M_look_16 M_look_71
  rw [w_nat hx2, if_neg (by omega), g_le_s, ei, w_nat hj, if_pos bj, Int.toNat_natCast, hC, w32_01 hc, ii]
  by_cases e : C (64 * y + x) = 0
  · rw [if_pos e]
    refine key 0 ?_
    unfold gin
    rw [decide_eq_false (by omega)]
    rfl
  · rw [if_neg e, g_bi_s]
    have e1 : C (64 * y + x) = 1 := by omega
    have e4 : gin C X Y B n odd y x = isI X Y B n odd (4 * (x : Int) + 2) (4 * (y : Int) + 2) := by unfold gin; rw [decide_eq_true e1, Bool.true_and]
    cases hi : isI X Y B n odd (4 * (x : Int) + 2) (4 * (y : Int) + 2) with
    | false =>
      rw [if_pos (show w32 (if false = true then 1 else 0) = 0 by decide)]
      exact key 0 (by rw [e4, hi]; rfl)
    | true =>
      rw [if_neg (show ¬ w32 (if true = true then 1 else 0) = 0 by decide)]
      exact key 1 (by rw [e4, hi]; rfl)
def LKd (C X Y B : Nat → Int) (n : Nat) (odd : Int) (m : gS) (k : Nat) : Prop := ∀ j, j < k → m 65 j = bi (gin C X Y B n odd (j / 64) (j % 64))
def i65 (q k : Nat) : Bool := decide (q = 65)
theorem lk_row {K2 : Int → Int → Int → gS → gA} (ho : odd = 0 ∨ odd = 1) {y : Nat} (hy : y < 48) : ∀ (d x N : Nat) (st : Int) (m : gS), x + d = 64 → PC n X Y B C m → LKd C X Y B n odd m (64 * y + x) → ∃ m', M_look_16L K2 (N + d + 1) (1 - odd) (st + (nS (ru (gin C X Y B n odd y)) x : Nat)) y (bef (gin C X Y B n odd y) x) x m = K2 (1 - odd) (st + (nS (ru (gin C X Y B n odd y)) 64 : Nat)) y m' ∧ PC n X Y B C m' ∧ LKd C X Y B n odd m' (64 * y + 64) ∧ fM i65 m m' := by
  intro d
  induction d with
  | zero =>
    intro x N st m hx hp hl
    have : x = 64 := by omega
    subst this
    refine ⟨m, ?_, hp, hl, fM_rf _ _⟩
    show M_look_16 _ K2 _ _ _ _ _ _ = _
    unfold M_look_16
    rw [if_pos (by decide)]
  | succ d ih =>
    intro x N st m hx hp hl
    obtain ⟨m', i1, i2, i3, i4⟩ := ih (x + 1) N st (g_up m 65 (64 * y + x) (bi (gin C X Y B n odd y x))) (by omega) (PC_up hp) (fun j hj => by
      rcases (show j = 64 * y + x ∨ j < 64 * y + x by omega) with rfl | q
      · rw [up_y, show (64 * y + x) / 64 = y by omega, show (64 * y + x) % 64 = x by omega]
      · rw [up_n (by omega)]; exact hl j q)
    refine ⟨m', ?_, i2, i3, fM_tr (fM_up rfl) i4⟩
    show M_look_16 (M_look_16L K2 (N + d + 1)) K2 _ _ _ _ _ _ = _
    rw [lk_step hp ho hy (by omega), show st + (nS (ru (gin C X Y B n odd y)) x : Nat) + ((ru (gin C X Y B n odd y) x).toNat : Nat) = st + (nS (ru (gin C X Y B n odd y)) (x + 1) : Nat) by
      show _ = st + ((nS (ru (gin C X Y B n odd y)) x + (ru (gin C X Y B n odd y) x).toNat : Nat) : Int)
      omega]
    exact i1
/-- how many stretches in the first lines -/
def tot (g : Nat → Nat → Bool) : Nat → Nat
  | 0 => 0
  | y + 1 => tot g y + nS (ru (g y)) 64
theorem lk_all (ho : odd = 0 ∨ odd = 1) : ∀ (d y N : Nat) (m : gS), y + d = 48 → PC n X Y B C m → LKd C X Y B n odd m (64 * y) → ∃ m', M_look_4L (N + d + 1) (1 - odd) (tot (gin C X Y B n odd) y : Nat) y m = some (((tot (gin C X Y B n odd) 48 : Nat) : Int), m') ∧ PC n X Y B C m' ∧ LKd C X Y B n odd m' 3072 ∧ fM i65 m m' := by
  intro d
  induction d with
  | zero =>
    intro y N m hy hp hl
    have : y = 48 := by omega
    subst this
    refine ⟨m, ?_, hp, hl, fM_rf _ _⟩
    show M_look_4 _ _ _ _ _ = _
    unfold M_look_4
    rw [if_pos (by decide)]
  | succ d ih =>
    intro y N m hy hp hl
    obtain ⟨m1, r1, r2, r3, r4⟩ := lk_row (K2 := M_look_111 (M_look_4L (N + d + 1))) (X := X) (Y := Y) (B := B) (C := C) (n := n) ho (y := y) (by omega) 64 0 (1000000000000 - 65) (tot (gin C X Y B n odd) y : Nat) m (by omega) hp (by rw [Nat.add_zero]; exact hl)
    rw [show 1000000000000 - 65 + 64 + 1 = gFu from rfl] at r1
    obtain ⟨m', i1, i2, i3, i4⟩ := ih (y + 1) N m1 (by omega) r2 (by rw [show 64 * (y + 1) = 64 * y + 64 by omega]; exact r3)
    refine ⟨m', ?_, i2, i3, fM_tr r4 i4⟩
    show M_look_4 (M_look_4L (N + d + 1)) _ _ _ _ = _
    unfold M_look_4
    rw [w_nat (by omega), if_neg (by omega)]
    rw [show ((nS (ru (gin C X Y B n odd y)) 0 : Nat) : Int) = 0 from rfl, Int.add_zero] at r1
    exact r1.trans i1
theorem look_is (ho : odd = 0 ∨ odd = 1) (hp : PC n X Y B C m) : ∃ m', M_look (1 - odd) m = some (((tot (gin C X Y B n odd) 48 : Nat) : Int), m') ∧ LKd C X Y B n odd m' 3072 ∧ fM i65 m m' := by
  obtain ⟨m', i1, i2, i3, i4⟩ := lk_all (X := X) (Y := Y) (B := B) (C := C) ho 48 0 (1000000000000 - 49) m (by omega) hp (fun j hj => by omega)
  rw [show 1000000000000 - 49 + 48 + 1 = gFu from rfl] at i1
  exact ⟨m', i1, i3, i4⟩
end LK

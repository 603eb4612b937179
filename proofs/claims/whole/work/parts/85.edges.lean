/-! edges that a line of the page meets -/
def fb (B : Nat → Int) : Nat → Nat
  | 0 => 0
  | k + 1 => if B k = 0 then fb B k else k
theorem fb_le (B : Nat → Int) : ∀ k, fb B (k + 1) ≤ k := by
  intro k
  induction k with
  | zero => simp only [fb]; split <;> omega
  | succ k ih =>
    show (if B (k + 1) = 0 then fb B (k + 1) else k + 1) ≤ k + 1
    split <;> omega
def tow (B : Nat → Int) (n k : Nat) : Nat := if k + 1 = n ∨ B (k + 1) ≠ 0 then fb B (k + 1) else k + 1
theorem tow_lt {B : Nat → Int} {n k : Nat} (h : k < n) : tow B n k < n := by
  have := fb_le B k
  unfold tow
  split
  · omega
  · omega
def mee (x0 y0 x1 y1 cx cy : Int) : Int := if y0 ≤ cy ∧ cy < y1 then (if (cy - y0) * (x1 - x0) ≤ (cx - x0) * (y1 - y0) then 1 else 0) else if y1 ≤ cy ∧ cy < y0 then (if (cy - y1) * (x0 - x1) ≤ (cx - x1) * (y0 - y1) then -1 else 0) else 0
theorem mee_3 (x0 y0 x1 y1 cx cy : Int) : mee x0 y0 x1 y1 cx cy = 0 ∨ mee x0 y0 x1 y1 cx cy = 1 ∨ mee x0 y0 x1 y1 cx cy = -1 := by
  unfold mee
  split
  · split <;> simp
  · split
    · split <;> simp
    · simp
def me (X Y B : Nat → Int) (n : Nat) (cx cy : Int) (k : Nat) : Int := mee (X k) (Y k) (X (tow B n k)) (Y (tow B n k)) cx cy
def sm (X Y B : Nat → Int) (n : Nat) (cx cy : Int) : Nat → Int
  | 0 => 0
  | k + 1 => sm X Y B n cx cy k + me X Y B n cx cy k
def mn (X Y B : Nat → Int) (n : Nat) (cx cy : Int) : Nat → Int
  | 0 => 0
  | k + 1 => mn X Y B n cx cy k + (if me X Y B n cx cy k = 0 then 0 else 1)
theorem sm_bd (X Y B : Nat → Int) (n : Nat) (cx cy : Int) : ∀ k : Nat, -(k : Int) ≤ sm X Y B n cx cy k ∧ sm X Y B n cx cy k ≤ k ∧ 0 ≤ mn X Y B n cx cy k ∧ mn X Y B n cx cy k ≤ k ∧ (mn X Y B n cx cy k) % 2 = (sm X Y B n cx cy k) % 2 := by
  intro k
  induction k with
  | zero => simp [sm, mn]
  | succ k ih =>
    have h3 := mee_3 (X k) (Y k) (X (tow B n k)) (Y (tow B n k)) cx cy
    simp only [sm, mn]
    have : me X Y B n cx cy k = mee (X k) (Y k) (X (tow B n k)) (Y (tow B n k)) cx cy := rfl
    split <;> omega
/-- is the centre inside: by ways, or by how many -/
def isI (X Y B : Nat → Int) (n : Nat) (odd : Int) (cx cy : Int) : Bool := if odd = 0 then decide (sm X Y B n cx cy n ≠ 0) else decide (sm X Y B n cx cy n % 2 = 1)
/-- the leftmost pixel that counts -/
def fpx (x0 y0 x1 y1 cy : Int) : Int := if 64 < -((2 * (y1 - y0) - (x0 * (y1 - y0) + (cy - y0) * (x1 - x0))) / (4 * (y1 - y0))) then 64 else if -((2 * (y1 - y0) - (x0 * (y1 - y0) + (cy - y0) * (x1 - x0))) / (4 * (y1 - y0))) < 0 then 0 else -((2 * (y1 - y0) - (x0 * (y1 - y0) + (cy - y0) * (x1 - x0))) / (4 * (y1 - y0)))
theorem fpx_bd (x0 y0 x1 y1 cy : Int) : 0 ≤ fpx x0 y0 x1 y1 cy ∧ fpx x0 y0 x1 y1 cy ≤ 64 := by
  unfold fpx
  split
  · omega
  · split <;> omega
theorem fpx_le {x0 y0 x1 y1 cy : Int} (h : 0 < y1 - y0) {p : Nat} (hp : p < 64) : fpx x0 y0 x1 y1 cy ≤ p ↔ (cy - y0) * (x1 - x0) ≤ (4 * (p : Int) + 2 - x0) * (y1 - y0) := by
  have e1 : (4 * (p : Int) + 2 - x0) * (y1 - y0) = 4 * ((p : Int) * (y1 - y0)) + 2 * (y1 - y0) - x0 * (y1 - y0) := by rw [Int.sub_mul, Int.add_mul, Int.mul_assoc]
  have e2 : -(p : Int) * (4 * (y1 - y0)) = -(4 * ((p : Int) * (y1 - y0))) := by rw [Int.neg_mul, Int.mul_left_comm]
  have k := Int.le_ediv_iff_mul_le (a := -(p : Int)) (b := 2 * (y1 - y0) - (x0 * (y1 - y0) + (cy - y0) * (x1 - x0))) (c := 4 * (y1 - y0)) (by omega)
  rw [e2] at k
  rw [e1]
  unfold fpx
  generalize (2 * (y1 - y0) - (x0 * (y1 - y0) + (cy - y0) * (x1 - x0))) / (4 * (y1 - y0)) = Q at k ⊢
  generalize x0 * (y1 - y0) = T at k ⊢
  generalize (cy - y0) * (x1 - x0) = U at k ⊢
  generalize (p : Int) * (y1 - y0) = P at k ⊢
  split
  · constructor
    · intro; omega
    · intro hh; have := k.2 (by omega); omega
  · split
    · constructor
      · intro; have := k.1 (by omega); omega
      · intro; omega
    · constructor
      · intro; have := k.1 (by omega); omega
      · intro hh; have := k.2 (by omega); omega
/-- the class's path -/
def PD (n : Nat) (X Y B : Nat → Int) (c : gS) : Prop := n ≤ 200 ∧ c 28 5 = n ∧ ∀ i, i < n → c 29 i = X i ∧ c 30 i = Y i ∧ c 31 i = B i ∧ (B i = 0 ∨ B i = 1) ∧ (-100000 ≤ X i ∧ X i ≤ 100000) ∧ -100000 ≤ Y i ∧ Y i ≤ 100000
def rC (q : Nat) : Bool := decide (q = 16) || decide (q = 17)
section ED
variable {n : Nat} {X Y B : Nat → Int} {c c' m : gS}
theorem PD_fr (f : fC rC c c') (h : PD n X Y B c) : PD n X Y B c' := by
  unfold PD
  rw [f 28 rfl, f 29 rfl, f 30 rfl, f 31 rfl]
  exact h
theorem JP.pd {s : Nat} (h : JP s c m) : PD s (m 59) (m 60) (m 61) c := ⟨h.1, h.2.1, h.2.2.2.1⟩
theorem fp_is (h : PD n X Y B c) {i j : Nat} (hi : i < n) (hj : j < n) {cy : Int} (c0 : 0 ≤ cy) (c1 : cy ≤ 1000) (hy : 0 < Y j - Y i) : Filler_firstPixel i j cy c = some (fpx (X i) (Y i) (X j) (Y j) cy, c) := by
  obtain ⟨hn, h5, ha⟩ := h
  obtain ⟨i1, i2, -, -, i3, i4⟩ := ha i hi
  obtain ⟨j1, j2, -, -, j3, j4⟩ := ha j hj
  have b1 := mul_bd (A := 100000) (B := 200000) (C := 20000000000) (by omega) (by omega) (by omega) (by omega) rfl (x := X i) (y := Y j - Y i)
  have b2 := mul_bd (A := 101000) (B := 200000) (C := 20200000000) (by omega) (by omega) (by omega) (by omega) rfl (x := cy - Y i) (y := X j - X i)
  have bi : (0 : Int) ≤ (i : Int) ∧ (i : Int) < 200 := by omega
  have bj : (0 : Int) ≤ (j : Int) ∧ (j : Int) < 200 := by omega
  unfold Filler_firstPixel
  rw [w_nat (show i < 2147483648 by omega), w_nat (show j < 2147483648 by omega), if_pos bj, if_pos bi, g_le_s, Int.toNat_natCast, Int.toNat_natCast, i1, i2, j1, j2, w32_id (z := Y j) (by omega) (by omega), w32_id (z := Y i) (by omega) (by omega), w32_id (z := X j) (by omega) (by omega), w32_id (z := X i) (by omega) (by omega), w32_id (z := cy - Y i) (by omega) (by omega), l_cmp_s (w64_id (by omega) (by omega)) (by decide), if_pos (by rw [if_pos hy]; decide), if_pos bj, if_pos bi, g_le_s, if_pos bi, if_pos bi, g_le_s, fdiv_is c (by omega) (by omega) (by omega) (by omega), g_bi_s, g_le_s]
  have b3 : -100000000000 ≤ (2 * (Y j - Y i) - (X i * (Y j - Y i) + (cy - Y i) * (X j - X i))) / (4 * (Y j - Y i)) ∧ (2 * (Y j - Y i) - (X i * (Y j - Y i) + (cy - Y i) * (X j - X i))) / (4 * (Y j - Y i)) ≤ 100000000000 := by
    generalize hU : 2 * (Y j - Y i) - (X i * (Y j - Y i) + (cy - Y i) * (X j - X i)) = U
    have hU1 : -100000000000 ≤ U ∧ U ≤ 100000000000 := by omega
    have hV : 0 < 4 * (Y j - Y i) := by omega
    generalize 4 * (Y j - Y i) = V at hV
    constructor
    · rw [Int.le_ediv_iff_mul_le hV]
      have := Int.mul_le_mul_of_nonneg_left (show (1 : Int) ≤ V by omega) (show (0 : Int) ≤ 100000000000 by decide)
      omega
    · refine Int.le_trans (Int.ediv_le_ediv hV hU1.2) ?_
      exact Int.ediv_le_self _ (by decide)
  unfold fpx
  generalize (2 * (Y j - Y i) - (X i * (Y j - Y i) + (cy - Y i) * (X j - X i))) / (4 * (Y j - Y i)) = Q at b3 ⊢
  unfold Math_min Math_max1
  rw [l_cmp_s (w64_id (by omega) (by omega)) (by decide)]
  by_cases q1 : 64 < -Q
  · rw [if_pos (by rw [if_pos q1]; decide), if_pos q1, g_bi_s, if_pos (by decide), g_bi_s]
  · rw [if_neg (by rw [if_neg q1]; split <;> omega), if_neg q1, g_bi_s, l_cmp_s (by decide) (w64_id (by omega) (by omega))]
    by_cases q2 : -Q < 0
    · rw [if_neg (by split <;> (try split) <;> omega), if_pos q2, g_bi_s]
    · rw [if_neg q2, if_neg q2]
      by_cases q3 : (0 : Int) = -Q
      · rw [if_neg (by rw [if_pos q3]; decide), g_bi_s, ← q3]
      · rw [if_pos (by rw [if_neg q3]; decide), g_bi_s]
/-- sums of turns -/
def cum (T : Nat → Int) : Nat → Int
  | 0 => 0
  | p + 1 => cum T p + T p
theorem cum_set {T T' : Nat → Int} {q : Nat} {d : Int} (h : T' q = T q + d) (h' : ∀ j, j ≠ q → T' j = T j) : ∀ p, cum T' p = cum T p + if q < p then d else 0 := by
  intro p
  induction p with
  | zero => simp [cum]
  | succ p ih =>
    simp only [cum]
    rw [ih]
    by_cases e : p = q
    · subst e
      rw [h, if_neg (by omega), if_pos (by omega)]
      omega
    · rw [h' p e]
      by_cases e2 : q < p
      · rw [if_pos e2, if_pos (by omega)]; omega
      · rw [if_neg e2, if_neg (by omega)]; omega
theorem cum_congr {T T' : Nat → Int} {n : Nat} (h : ∀ j, j < n → T' j = T j) : ∀ p, p ≤ n → cum T' p = cum T p := by
  intro p
  induction p with
  | zero => intro _; rfl
  | succ p ih => intro hp; simp only [cum]; rw [ih (by omega), h p (by omega)]
theorem cum_0 {T : Nat → Int} {n : Nat} (h : ∀ j, j < n → T j = 0) : ∀ p, p ≤ n → cum T p = 0 := by
  intro p
  induction p with
  | zero => intro _; rfl
  | succ p ih => intro hp; simp only [cum]; rw [ih (by omega), h p (by omega)]; rfl
def t7 (q : Nat) : Bool := decide (q = 17)
theorem edge_step (h : PD n X Y B c) {K : Int → Int → Int → Int → gS → gA} {cy l3 : Int} (c0 : 0 ≤ cy) (c1 : cy ≤ 1000) {k : Nat} (hk : k < n) (h3 : l3 = 0 ∨ l3 = 1) : ∃ (b : Int) (c' : gS), Filler_meetEdges_8 K cy l3 (fb B k) k c = K cy b (fb B (k + 1)) ((k + 1 : Nat) : Int) c' ∧ (b = 0 ∨ b = 1) ∧ (b = 0 → l3 = 0 ∧ c' = c) ∧ (∀ p, p < 64 → cum (c' 17) (p + 1) = cum (c 17) (p + 1) + me X Y B n (4 * (p : Int) + 2) cy k) ∧ fC t7 c c' := by
  obtain ⟨hn, h5, ha⟩ := id h
  have ht := tow_lt (B := B) hk
  have hf := fb_le B k
  have bk : (0 : Int) ≤ (k : Int) ∧ (k : Int) < 200 := ⟨by omega, by omega⟩
  have bt : (0 : Int) ≤ ((tow B n k : Nat) : Int) ∧ ((tow B n k : Nat) : Int) < 200 := ⟨by omega, by omega⟩
  obtain ⟨k1, k2, k3, k4, k5, k6⟩ := ha k hk
  obtain ⟨t1, t2, t3, t4, t5, t6⟩ := ha (tow B n k) ht
  have hk2 : k < 2147483648 := by omega
  have ht2 : tow B n k < 2147483648 := by omega
  have hn2 : n < 2147483648 := by omega
  have y1 : -2147483648 ≤ Y k := by omega
  have y2 : Y k < 2147483648 := by omega
  have y3 : -2147483648 ≤ Y (tow B n k) := by omega
  have y4 : Y (tow B n k) < 2147483648 := by omega
  have y5 : -2147483648 ≤ cy := by omega
  have y6 : cy < 2147483648 := by omega
  have sA : Filler_meetEdges_8 K cy l3 (fb B k) k c = Filler_meetEdges_34 K cy l3 k (fb B (k + 1)) c := by
    unfold Filler_meetEdges_8
    rw [h5, w_nat hn2, w_nat hk2, if_neg (by omega), if_pos bk, Int.toNat_natCast, k3, w32_01 k4]
    simp only [fb]
    by_cases e : B k = 0
    · rw [if_pos e, if_pos e]
    · rw [if_neg e, if_neg e]
  have sB : Filler_meetEdges_34 K cy l3 k (fb B (k + 1)) c = Filler_meetEdges_80 K cy l3 (fb B (k + 1)) k (tow B n k : Nat) c := by
    unfold Filler_meetEdges_34 Filler_meetEdges_59 Filler_meetEdges_64
    rw [h5, w_nat hn2, show (k : Int) + 1 = ((k + 1 : Nat) : Int) by omega, w_nat (by omega)]
    unfold tow
    by_cases e : k + 1 = n
    · rw [if_pos (by omega), if_neg (by decide), if_pos (Or.inl e)]
    · rw [if_neg (by omega), if_pos (by omega), Int.toNat_natCast, (ha (k + 1) (by omega)).2.2.1, w32_01 (ha (k + 1) (by omega)).2.2.2.1]
      by_cases e2 : B (k + 1) = 0
      · rw [if_pos e2, if_pos (by decide), if_neg (by omega)]
      · rw [if_neg e2, if_neg (by decide), if_pos (Or.inr e2)]
  have sC : Filler_meetEdges_80 K cy l3 (fb B (k + 1)) k (tow B n k : Nat) c = Filler_meetEdges_109 K cy l3 (fb B (k + 1)) k (tow B n k : Nat) (if Y k ≤ cy ∧ cy < Y (tow B n k) then 1 else 0) c := by
    unfold Filler_meetEdges_80 Filler_meetEdges_108
    rw [w_nat hk2, if_pos bk, Int.toNat_natCast, k2, w32_id y1 y2, w32_id y5 y6, w_nat ht2, Int.toNat_natCast, t2, w32_id y3 y4, if_pos bt]
    by_cases e : cy < Y k
    · rw [if_pos e, if_neg (fun x : Y k ≤ cy ∧ cy < Y (tow B n k) => absurd x.1 (Int.not_le.mpr e))]
    · rw [if_neg e]
      by_cases e2 : Y (tow B n k) ≤ cy
      · rw [if_pos e2, if_neg (fun x : Y k ≤ cy ∧ cy < Y (tow B n k) => absurd x.2 (Int.not_lt.mpr e2))]
      · rw [if_neg e2, if_pos (show Y k ≤ cy ∧ cy < Y (tow B n k) from ⟨Int.not_lt.mp e, Int.not_le.mp e2⟩)]
  have sD : ∀ d : Int, Filler_meetEdges_109 K cy l3 (fb B (k + 1)) k (tow B n k : Nat) d c = Filler_meetEdges_138 K cy l3 (fb B (k + 1)) k (tow B n k : Nat) d (if Y (tow B n k) ≤ cy ∧ cy < Y k then 1 else 0) c := by
    intro d
    unfold Filler_meetEdges_109 Filler_meetEdges_137
    rw [w_nat ht2, if_pos bt, Int.toNat_natCast, t2, w32_id y3 y4, w32_id y5 y6, w_nat hk2, Int.toNat_natCast, k2, w32_id y1 y2, if_pos bk]
    by_cases e : cy < Y (tow B n k)
    · rw [if_pos e, if_neg (fun x : Y (tow B n k) ≤ cy ∧ cy < Y k => absurd x.1 (Int.not_le.mpr e))]
    · rw [if_neg e]
      by_cases e2 : Y k ≤ cy
      · rw [if_pos e2, if_neg (fun x : Y (tow B n k) ≤ cy ∧ cy < Y k => absurd x.2 (Int.not_lt.mpr e2))]
      · rw [if_neg e2, if_pos (show Y (tow B n k) ≤ cy ∧ cy < Y k from ⟨Int.not_lt.mp e, Int.not_le.mp e2⟩)]
  rw [sA, sB, sC, sD]
  have fin : ∀ (d x : Int), (d = 0 ∨ d = 1) → 0 ≤ x → x ≤ 64 → (∀ p : Nat, p < 64 → me X Y B n (4 * (p : Int) + 2) cy k = if x ≤ p then (if d = 0 then -1 else 1) else 0) → ∃ (b : Int) (c' : gS), Filler_meetEdges_176 K cy l3 (fb B (k + 1)) k d x c = K cy b (fb B (k + 1)) ((k + 1 : Nat) : Int) c' ∧ (b = 0 ∨ b = 1) ∧ (b = 0 → l3 = 0 ∧ c' = c) ∧ (∀ p, p < 64 → cum (c' 17) (p + 1) = cum (c 17) (p + 1) + me X Y B n (4 * (p : Int) + 2) cy k) ∧ fC t7 c c' := by
    intro d x hd x0 x1 hm
    unfold Filler_meetEdges_176 Filler_meetEdges_203 Filler_meetEdges_207
    rw [w32_id (z := x) (by omega) (by omega), w32_01 hd]
    by_cases e : 64 ≤ x
    · rw [if_pos e]
      exact ⟨l3, c, rfl, h3, fun hb => ⟨hb, rfl⟩, fun p hp => by rw [hm p hp, if_neg (by omega)]; omega, fC_rf _ _⟩
    · have xb : 0 ≤ x ∧ x < 64 := ⟨x0, by omega⟩
      rw [if_neg e, if_pos xb]
      have hc : ∀ v : Int, (v = if d = 0 then -1 else 1) → ∀ p, p < 64 → cum (g_up c 17 x.toNat (c 17 x.toNat + v) 17) (p + 1) = cum (c 17) (p + 1) + me X Y B n (4 * (p : Int) + 2) cy k := by
        intro v hv p hp
        rw [cum_set (T := c 17) (q := x.toNat) (d := v) up_y (fun j hj => up_n (by omega)) (p + 1), hm p hp, ← hv]
        by_cases e2 : x ≤ p
        · rw [if_pos (by omega), if_pos e2]
        · rw [if_neg (by omega), if_neg e2]
      by_cases e3 : d = 0
      · rw [if_pos e3, if_pos xb, g_le_s]
        exact ⟨1, _, rfl, Or.inr rfl, fun hb => by omega, hc (-1) (by rw [if_pos e3]), fC_up rfl⟩
      · rw [if_neg e3, if_pos xb, g_le_s]
        exact ⟨1, _, rfl, Or.inr rfl, fun hb => by omega, hc 1 (by rw [if_neg e3]), fC_up rfl⟩
  unfold Filler_meetEdges_138 Filler_meetEdges_150
  by_cases dn : Y k ≤ cy ∧ cy < Y (tow B n k)
  · have b := fpx_bd (X k) (Y k) (X (tow B n k)) (Y (tow B n k)) cy
    rw [if_pos dn, if_neg (by decide), if_neg (by decide), fp_is h hk ht c0 c1 (by omega), g_bi_s]
    refine fin 1 _ (Or.inr rfl) b.1 b.2 fun p hp => ?_
    have q := fpx_le (x0 := X k) (y0 := Y k) (x1 := X (tow B n k)) (y1 := Y (tow B n k)) (cy := cy) (by omega) hp
    unfold me mee
    rw [if_pos dn, if_neg (show ¬ (1 : Int) = 0 by decide)]
    by_cases e : fpx (X k) (Y k) (X (tow B n k)) (Y (tow B n k)) cy ≤ p
    · rw [if_pos e, if_pos (q.1 e)]
    · rw [if_neg e, if_neg (fun x => e (q.2 x))]
  · rw [if_neg dn, if_pos (show w32 0 = 0 from rfl)]
    by_cases up : Y (tow B n k) ≤ cy ∧ cy < Y k
    · have b := fpx_bd (X (tow B n k)) (Y (tow B n k)) (X k) (Y k) cy
      rw [if_pos up, if_neg (show ¬ w32 1 = 0 by decide), if_pos (show w32 0 = 0 from rfl), fp_is h ht hk c0 c1 (by omega), g_bi_s]
      refine fin 0 _ (Or.inl rfl) b.1 b.2 fun p hp => ?_
      have q := fpx_le (x0 := X (tow B n k)) (y0 := Y (tow B n k)) (x1 := X k) (y1 := Y k) (cy := cy) (by omega) hp
      unfold me mee
      rw [if_neg dn, if_pos up, if_pos (show (0 : Int) = 0 from rfl)]
      by_cases e : fpx (X (tow B n k)) (Y (tow B n k)) (X k) (Y k) cy ≤ p
      · rw [if_pos e, if_pos (q.1 e)]
      · rw [if_neg e, if_neg (fun x => e (q.2 x))]
    · rw [if_neg up, if_pos (show w32 0 = 0 from rfl)]
      unfold Filler_meetEdges_207
      refine ⟨l3, c, rfl, h3, fun hb => ⟨hb, rfl⟩, fun p hp => ?_, fC_rf _ _⟩
      unfold me mee
      rw [if_neg dn, if_neg up]
      omega
theorem meet_loop {cy : Int} (c0 : 0 ≤ cy) (c1 : cy ≤ 1000) : ∀ (d k N : Nat) (l3 : Int) (c : gS), k + d = n → PD n X Y B c → (l3 = 0 ∨ l3 = 1) → (l3 = 0 → ∀ j, j < 64 → c 17 j = 0) → (∀ p : Nat, p < 64 → cum (c 17) (p + 1) = sm X Y B n (4 * (p : Int) + 2) cy k) → ∃ (b : Int) (c' : gS), Filler_meetEdges_8L (N + d + 1) cy l3 (fb B k) k c = some (b, c') ∧ (b = 0 ∨ b = 1) ∧ (b = 0 → ∀ j, j < 64 → c' 17 j = 0) ∧ (∀ p : Nat, p < 64 → cum (c' 17) (p + 1) = sm X Y B n (4 * (p : Int) + 2) cy n) ∧ fC t7 c c' := by
  intro d
  induction d with
  | zero =>
    intro k N l3 c hk hd h3 hz hs
    have : k = n := by omega
    subst this
    refine ⟨l3, c, ?_, h3, hz, hs, fC_rf _ _⟩
    show Filler_meetEdges_8 _ _ _ _ _ _ = _
    unfold Filler_meetEdges_8
    rw [hd.2.1, if_pos (Int.le_refl _), if_pos (by rw [w32_01 h3]; exact h3)]
  | succ d ih =>
    intro k N l3 c hk hd h3 hz hs
    obtain ⟨b, c', e1, e2, e3, e4, e5⟩ := edge_step hd (K := Filler_meetEdges_8L (N + d + 1)) c0 c1 (k := k) (by omega) h3
    obtain ⟨b', c'', i1, i2, i3, i4, i5⟩ := ih (k + 1) N b c' (by omega) (PD_fr (fC_mono (fun q hq => by unfold t7 at hq; unfold rC; rw [hq, Bool.or_true]) e5) hd) e2 (fun hb j hj => by rw [(e3 hb).2]; exact hz (e3 hb).1 j hj) (fun p hp => by rw [e4 p hp, hs p hp]; rfl)
    refine ⟨b', c'', ?_, i2, i3, i4, fC_tr e5 i5⟩
    show Filler_meetEdges_8 (Filler_meetEdges_8L (N + d + 1)) _ _ _ _ _ = _
    rw [e1]
    exact i1
theorem meet_is {cy : Int} (c0 : 0 ≤ cy) (c1 : cy ≤ 1000) (hd : PD n X Y B c) (hz : ∀ j, j < 64 → c 17 j = 0) : ∃ (b : Int) (c' : gS), Filler_meetEdges cy c = some (b, c') ∧ (b = 0 ∨ b = 1) ∧ (b = 0 → ∀ j, j < 64 → c' 17 j = 0) ∧ (∀ p : Nat, p < 64 → cum (c' 17) (p + 1) = sm X Y B n (4 * (p : Int) + 2) cy n) ∧ fC t7 c c' := by
  have hn := hd.1
  have := meet_loop (X := X) (Y := Y) (B := B) c0 c1 n 0 (1000000000000 - n - 1) 0 c (by omega) hd (Or.inl rfl) (fun _ => hz) (fun p hp => by rw [cum_0 (n := 64) hz (p + 1) (by omega)]; rfl)
  rw [show 1000000000000 - n - 1 + n + 1 = gFu by show _ = 1000000000000; omega] at this
  exact this
end ED

/-! matrix, grey and clip -/
theorem mul_bd {x y : Int} {A B C : Nat} (h1 : -(A : Int) ≤ x) (h2 : x ≤ A) (h3 : -(B : Int) ≤ y) (h4 : y ≤ B) (hC : A * B = C) : -(C : Int) ≤ x * y ∧ x * y ≤ C := by
  have e := Int.natAbs_mul x y
  have := Nat.mul_le_mul (show x.natAbs ≤ A by omega) (show y.natAbs ≤ B by omega)
  rw [← e, hC] at this
  omega
theorem w64_64 (t : Int64) : w64 t.toInt = t.toInt := by
  rw [← w64_toInt, Int64.ofInt_toInt]
theorem w32_32 (t : Int32) : w32 t.toInt = t.toInt := by
  rw [← w32_toInt, Int32.ofInt_toInt]
theorem xor_neg {x y : Int} (hx : w64 x = x) (hy : w64 y = y) (h : 0 ≤ y) : l_xor x y < 0 ↔ x < 0 := by
  have h1 : (Int64.ofInt x).toBitVec.msb = decide (x < 0) := by
    rw [BitVec.msb_eq_toInt]
    show decide ((Int64.ofInt x).toInt < 0) = _
    rw [w64_toInt, hx]
  have h2 : (Int64.ofInt y).toBitVec.msb = decide (y < 0) := by
    rw [BitVec.msb_eq_toInt]
    show decide ((Int64.ofInt y).toInt < 0) = _
    rw [w64_toInt, hy]
  have h3 : decide (l_xor x y < 0) = ((Int64.ofInt x).toBitVec ^^^ (Int64.ofInt y).toBitVec).msb := by
    rw [BitVec.msb_eq_toInt]
    rfl
  rw [BitVec.msb_xor, h1, h2, decide_eq_false (show ¬ y < 0 by omega), Bool.xor_false] at h3
  exact decide_eq_decide.mp h3
theorem fdiv_is {x y : Int} (s : gS) (hy : 0 < y) (hy2 : y ≤ 1152921504606846976) (hx : -1152921504606846976 ≤ x) (hx2 : x ≤ 1152921504606846976) : Math_floorDiv x y s = some (x / y, s) := by
  have wx : w64 x = x := w64_id (by omega) (by omega)
  have wy : w64 y = y := w64_id (by omega) (by omega)
  have t := tdiv_lo (x := x) (y := y) (B := 1152921504606846976) (by omega) (by omega)
  have r := tmod_lo (x := x) (y := y) (B := 1152921504606846976) (by omega) (by omega)
  have hd := Int.tdiv_eq_ediv (a := x) (b := y)
  have hm := Int.tmod_def x y
  have hc := Int.mul_comm y (x.tdiv y)
  have xn := xor_neg wx wy (by omega)
  have wv : w64 (x.tdiv y * y) = x.tdiv y * y := w64_id (by omega) (by omega)
  unfold Math_floorDiv
  rw [wy, if_pos (by omega), g_le_s, l_div_eq wx wy, w64_id (z := x.tdiv y) (by omega) (by omega), l_cmp_s (by unfold l_xor; exact w64_64 _) (by decide), l_cmp_s wv wx]
  by_cases h0 : 0 ≤ x
  · rw [if_pos (by
      have : ¬ l_xor x y < 0 := fun e => by have := xn.1 e; omega
      split <;> (try split) <;> omega), hd, if_pos (Or.inl h0)]
    congr 2
    omega
  · rw [if_neg (by
      have : l_xor x y < 0 := xn.2 (by omega)
      split <;> (try split) <;> omega)]
    by_cases hv : y ∣ x
    · rw [if_pos (Or.inr hv)] at hd
      have e2 := Int.ediv_mul_cancel hv
      have e3 : x.tdiv y * y = x := by rw [hd, Int.add_zero]; exact e2
      rw [if_pos (by rw [if_neg (by omega), if_pos e3]), hd]
      congr 2
      omega
    · rw [if_neg (by rintro (a | a); exact h0 a; exact hv a), Int.sign_eq_one_of_pos hy] at hd
      have e3 : x.tdiv y * y ≠ x := fun e => hv ⟨x.tdiv y, by rw [Int.mul_comm]; exact e.symm⟩
      rw [if_neg (by split <;> (try split) <;> omega)]
      congr 2
      omega
theorem l_shr_is {x : Int} {n : Nat} (hx : w64 x = x) (hn : n < 64) : l_shr x n = x / (2 ^ n : Nat) := by
  have h : (lB (l_shr x n)).toInt = l_shr x n := by
    unfold l_shr
    rw [lB_64]
    rfl
  rw [← h, lB_shr x hn, BitVec.toInt_sshiftRight, Int.shiftRight_eq_div_pow]
  congr 1
  show (Int64.ofInt x).toInt = x
  rw [w64_toInt, hx]
theorem sh_arg32 : ∀ y : Fin 32, ((Int32.ofInt (y : Nat)) &&& 31) = Int32.ofNat y := by decide
theorem i_shr_is {x : Int} (hx : w32 x = x) : i_shr x 1 = x / 2 := by
  unfold i_shr
  rw [show ((Int32.ofInt 1) &&& 31) = Int32.ofNat 1 by decide]
  show ((BitVec.ofInt 32 x).sshiftRight' ((Int32.ofNat 1).toBitVec.smod 32)).toInt = _
  rw [BitVec.sshiftRight', show ((Int32.ofNat 1).toBitVec.smod 32).toNat = 1 by decide, BitVec.toInt_sshiftRight, Int.shiftRight_eq_div_pow]
  show (Int32.ofInt x).toInt / 2 = _
  rw [w32_toInt, hx]
theorem i_shr_bd {a b : Int} {B : Nat} (hB : B ≤ 1000000000) (h1 : -(B : Int) ≤ a) (h2 : a ≤ B) (h3 : -(B : Int) ≤ b) (h4 : b ≤ B) : -(B : Int) ≤ i_shr (a + b) 1 ∧ i_shr (a + b) 1 ≤ B := by
  rw [i_shr_is (w32_id (by omega) (by omega))]
  omega
/-- a matrix and a grey: the class's at a, the model's from b on -/
def SR (c m : gS) (a b : Nat) : Prop := (c 22 a = m 62 b ∧ c 23 a = m 62 (b + 1) ∧ c 24 a = m 62 (b + 2) ∧ c 25 a = m 62 (b + 3) ∧ c 26 a = m 62 (b + 4)) ∧ -4096 ≤ m 62 b ∧ m 62 b ≤ 4096 ∧ -4096 ≤ m 62 (b + 1) ∧ m 62 (b + 1) ≤ 4096 ∧ -100000 ≤ m 62 (b + 2) ∧ m 62 (b + 2) ≤ 100000 ∧ -100000 ≤ m 62 (b + 3) ∧ m 62 (b + 3) ≤ 100000 ∧ 0 ≤ m 62 (b + 4) ∧ m 62 (b + 4) ≤ 16
/-- forty-eight lines: longs against flags -/
def BR (g h : Nat → Int) : Prop := ∀ y, y < 48 → ∀ x, x < 64 → h (64 * y + x) = if lb (g y) (63 - x) then 1 else 0
theorem BR.b01 {g h : Nat → Int} (k : BR g h) {j : Nat} (hj : j < 3072) : h j = 0 ∨ h j = 1 := by
  have := k (j / 64) (by omega) (j % 64) (by omega)
  rw [show 64 * (j / 64) + j % 64 = j by omega] at this
  rw [this]
  split <;> simp
def JM (l : Nat) (c m : gS) : Prop := l ≤ 4 ∧ c 21 6 = l ∧ m 49 32 = l ∧ (SR c m l 0 ∧ BR (fun y => c 27 (48 * l + y)) (m 63)) ∧ ∀ k, k < l → SR c m k (5 * (k + 1)) ∧ BR (fun y => c 27 (48 * k + y)) (fun j => m 63 (3072 * (k + 1) + j))
def mC (q : Nat) : Bool := decide (21 ≤ q) && decide (q ≤ 27)
def mM (q k : Nat) : Bool := (decide (q = 49) && decide (k = 32)) || decide (q = 62) || decide (q = 63)
def pX (m : gS) (a : Int) : Int := m 62 2 + m 62 0 * a / 16
def pY (m : gS) (a : Int) : Int := m 62 3 + m 62 1 * a / 16
section SE
variable {l : Nat} {c m c' m' : gS}
theorem SR_congr {a b : Nat} (h1 : c' 22 a = c 22 a) (h2 : c' 23 a = c 23 a) (h3 : c' 24 a = c 24 a) (h4 : c' 25 a = c 25 a) (h5 : c' 26 a = c 26 a) (h6 : ∀ i, i < 5 → m' 62 (b + i) = m 62 (b + i)) (h : SR c m a b) : SR c' m' a b := by
  have e0 := h6 0 (by omega)
  rw [Nat.add_zero] at e0
  unfold SR
  rw [h1, h2, h3, h4, h5, e0, h6 1 (by omega), h6 2 (by omega), h6 3 (by omega), h6 4 (by omega)]
  exact h
theorem JM_congr (h1 : c' 21 6 = c 21 6) (h2 : c' 22 = c 22) (h3 : c' 23 = c 23) (h4 : c' 24 = c 24) (h5 : c' 25 = c 25) (h6 : c' 26 = c 26) (h7 : c' 27 = c 27) (h8 : m' 49 32 = m 49 32) (h9 : m' 62 = m 62) (h10 : m' 63 = m 63) (h : JM l c m) : JM l c' m' := by
  unfold JM SR
  rw [h1, h2, h3, h4, h5, h6, h7, h8, h9, h10]
  exact h
theorem JM.lv (h : JM l c m) : 0 ≤ w32 (c 21 6) ∧ w32 (c 21 6) < 5 ∧ (w32 (c 21 6)).toNat = l := by
  rw [h.2.1, w_nat (by have := h.1; omega)]
  have := h.1
  omega
theorem stX (h : JM l c m) {a : Int} (h1 : -3000000 ≤ a) (h2 : a ≤ 3000000) : Settings_stretchedX a c = some (m 62 0 * a / 16, c) := by
  have lv := h.lv
  obtain ⟨e, r⟩ := h.2.2.2.1.1
  simp only [Nat.zero_add] at e r
  have b := mul_bd (A := 4096) (B := 3000000) (C := 12288000000) (by omega) (by omega) (by omega) (by omega) rfl (x := m 62 0) (y := a)
  unfold Settings_stretchedX
  rw [if_pos ⟨lv.1, lv.2.1⟩, lv.2.2, e.1, w32_id (z := m 62 0) (by omega) (by omega), w32_id (z := a) (by omega) (by omega), fdiv_is c (by decide) (by decide) (by omega) (by omega), g_bi_s]
theorem stY (h : JM l c m) {a : Int} (h1 : -3000000 ≤ a) (h2 : a ≤ 3000000) : Settings_stretchedY a c = some (m 62 1 * a / 16, c) := by
  have lv := h.lv
  obtain ⟨e, r⟩ := h.2.2.2.1.1
  simp only [Nat.zero_add] at e r
  have b := mul_bd (A := 4096) (B := 3000000) (C := 12288000000) (by omega) (by omega) (by omega) (by omega) rfl (x := m 62 1) (y := a)
  unfold Settings_stretchedY
  rw [if_pos ⟨lv.1, lv.2.1⟩, lv.2.2, e.2.1, w32_id (z := m 62 1) (by omega) (by omega), w32_id (z := a) (by omega) (by omega), fdiv_is c (by decide) (by decide) (by omega) (by omega), g_bi_s]
theorem plX (h : JM l c m) {a : Int} (h1 : -3000000 ≤ a) (h2 : a ≤ 3000000) : Settings_placedX a c = some (pX m a, c) := by
  have lv := h.lv
  obtain ⟨e, r⟩ := h.2.2.2.1.1
  simp only [Nat.zero_add] at e r
  unfold Settings_placedX
  rw [if_pos ⟨lv.1, lv.2.1⟩, stX h h1 h2, g_bi_s, lv.2.2, e.2.2.1, w32_id (z := m 62 2) (by omega) (by omega)]
  rfl
theorem plY (h : JM l c m) {a : Int} (h1 : -3000000 ≤ a) (h2 : a ≤ 3000000) : Settings_placedY a c = some (pY m a, c) := by
  have lv := h.lv
  obtain ⟨e, r⟩ := h.2.2.2.1.1
  simp only [Nat.zero_add] at e r
  unfold Settings_placedY
  rw [if_pos ⟨lv.1, lv.2.1⟩, stY h h1 h2, g_bi_s, lv.2.2, e.2.2.2.1, w32_id (z := m 62 3) (by omega) (by omega)]
  rfl
theorem six {a b : Int} (s : gS) (h1 : -100000 ≤ a) (h2 : a ≤ 100000) (h3 : -3000000 ≤ b) (h4 : b ≤ 3000000) : M_sixteenth a b s = some (a * b / 16, s) := by
  have e := mul_bd (A := 100000) (B := 3000000) (C := 300000000000) (by omega) (by omega) (by omega) (by omega) rfl (x := a) (y := b)
  unfold M_sixteenth
  rw [w32_id (z := a) (by omega) (by omega), w32_id (z := b) (by omega) (by omega), show (4 : Int) = ((4 : Nat) : Int) from rfl, l_shr_is (w64_id (by omega) (by omega)) (by decide)]
  rfl
theorem xM (h : JM l c m) {a : Int} (h1 : -3000000 ≤ a) (h2 : a ≤ 3000000) : M_xOf a m = some (pX m a, m) := by
  obtain ⟨e, r⟩ := h.2.2.2.1.1
  simp only [Nat.zero_add] at e r
  unfold M_xOf
  rw [six m (by omega) (by omega) h1 h2, g_bi_s, w32_id (z := m 62 2) (by omega) (by omega)]
  rfl
theorem yM (h : JM l c m) {a : Int} (h1 : -3000000 ≤ a) (h2 : a ≤ 3000000) : M_yOf a m = some (pY m a, m) := by
  obtain ⟨e, r⟩ := h.2.2.2.1.1
  simp only [Nat.zero_add] at e r
  unfold M_yOf
  rw [six m (by omega) (by omega) h1 h2, g_bi_s, w32_id (z := m 62 3) (by omega) (by omega)]
  rfl
theorem px_bd (h : JM l c m) {a : Int} (h1 : -3000000 ≤ a) (h2 : a ≤ 3000000) : -1000000000 ≤ pX m a ∧ pX m a ≤ 1000000000 ∧ -1000000000 ≤ pY m a ∧ pY m a ≤ 1000000000 ∧ -1000000000 ≤ m 62 0 * a / 16 ∧ m 62 0 * a / 16 ≤ 1000000000 ∧ -1000000000 ≤ m 62 1 * a / 16 ∧ m 62 1 * a / 16 ≤ 1000000000 := by
  obtain ⟨e, r⟩ := h.2.2.2.1.1
  simp only [Nat.zero_add] at e r
  have b0 := mul_bd (A := 4096) (B := 3000000) (C := 12288000000) (by omega) (by omega) (by omega) (by omega) rfl (x := m 62 0) (y := a)
  have b1 := mul_bd (A := 4096) (B := 3000000) (C := 12288000000) (by omega) (by omega) (by omega) (by omega) rfl (x := m 62 1) (y := a)
  unfold pX pY
  omega
theorem abs_is {x : Int} (s : gS) (h1 : -1000000000000 ≤ x) (h2 : x ≤ 1000000000000) : Math_abs x s = some ((x.natAbs : Int), s) := by
  unfold Math_abs
  rw [l_cmp_s (w64_id (by omega) (by omega)) (by decide)]
  by_cases q : 0 ≤ x
  · rw [if_pos (by split <;> (try split) <;> omega)]
    congr 2
    omega
  · rw [if_neg (by split <;> (try split) <;> omega)]
    congr 2
    omega
theorem far_is {x : Int} {B : Int} (s : gS) (h1 : -1000000000000 ≤ x) (h2 : x ≤ 1000000000000) (hB : 0 ≤ B) (hB2 : B ≤ 1000000) : M_isFar x B s = some (if (x.natAbs : Int) ≤ B then 0 else 1, s) := by
  unfold M_isFar
  rw [w32_id (z := B) (by omega) (by omega), w32_id (z := -B) (by omega) (by omega), l_cmp_s (w64_id (by omega) (by omega)) (w64_id (by omega) (by omega)), l_cmp_s (w64_id (by omega) (by omega)) (w64_id (by omega) (by omega))]
  by_cases q : B < x
  · rw [if_pos (by rw [if_pos q]; decide), if_neg (by omega)]
  · rw [if_neg (by rw [if_neg q]; split <;> omega)]
    by_cases q2 : -B ≤ x
    · rw [if_pos (by split <;> (try split) <;> omega), if_pos (by omega)]
    · rw [if_neg (by split <;> (try split) <;> omega), if_neg (by omega)]
/-! T, S, G -/
theorem move_both (h : JM l c m) {a b : Int} (h1 : -3000000 ≤ a) (h2 : a ≤ 3000000) (h3 : -3000000 ≤ b) (h4 : b ≤ 3000000) (hx : -100000 ≤ pX m a) (hx' : pX m a ≤ 100000) (hy : -100000 ≤ pY m b) (hy' : pY m b ≤ 100000) : Settings_move a b c = some (0, g_up (g_up c 24 l (pX m a)) 25 l (pY m b)) ∧ JM l (g_up (g_up c 24 l (pX m a)) 25 l (pY m b)) (g_up (g_up m 62 2 (pX m a)) 62 3 (pY m b)) := by
  have lv := h.lv
  obtain ⟨j1, j2, j3, ⟨⟨e, r⟩, j5⟩, j6⟩ := id h
  simp only [Nat.zero_add] at e r
  have eY : Settings_placedY b (g_up c 24 l (pX m a)) = some (pY m b, g_up c 24 l (pX m a)) := by
    have lv' : 0 ≤ w32 (g_up c 24 l (pX m a) 21 6) ∧ w32 (g_up c 24 l (pX m a) 21 6) < 5 := by rw [g_up_ne (by decide)]; exact ⟨lv.1, lv.2.1⟩
    have bb := mul_bd (A := 4096) (B := 3000000) (C := 12288000000) (by omega) (by omega) (by omega) (by omega) rfl (x := m 62 1) (y := b)
    unfold Settings_placedY Settings_stretchedY
    rw [if_pos lv', if_pos lv']
    simp (disch := decide) only [g_up_ne]
    rw [lv.2.2, e.2.1, e.2.2.2.1, w32_id (z := m 62 1) (by omega) (by omega), w32_id (z := b) (by omega) (by omega), w32_id (z := m 62 3) (by omega) (by omega), fdiv_is _ (by decide) (by decide) (by omega) (by omega), g_bi_s, g_bi_s]
    rfl
  refine ⟨?_, j1, ?_, ?_, ⟨?_, ?_⟩, fun k hk => ⟨?_, ?_⟩⟩
  · unfold Settings_move
    rw [plX h h1 h2, g_bi_s, if_pos ⟨lv.1, lv.2.1⟩, g_le_s, lv.2.2, eY, g_bi_s, g_up_ne (show 21 ≠ 24 by decide), if_pos ⟨lv.1, lv.2.1⟩, g_le_s, lv.2.2]
  · simp (disch := decide) only [g_up_ne]; exact j2
  · simp (disch := decide) only [g_up_ne]; exact j3
  · unfold SR
    simp (disch := decide) only [g_up_ne, up_y, up_n, Nat.zero_add]
    exact ⟨⟨e.1, e.2.1, trivial, trivial, e.2.2.2.2⟩, r.1, r.2.1, r.2.2.1, r.2.2.2.1, hx, hx', hy, hy', r.2.2.2.2.2.2.2.2⟩
  · simp (disch := decide) only [g_up_ne]; exact j5
  · refine SR_congr ?_ ?_ ?_ ?_ ?_ (fun i hi => ?_) (j6 k hk).1
    · simp (disch := decide) only [g_up_ne]
    · simp (disch := decide) only [g_up_ne]
    · rw [g_up_ne (by decide), up_n (by omega)]
    · rw [up_n (by omega), g_up_ne (by decide)]
    · simp (disch := decide) only [g_up_ne]
    · rw [up_n (by omega), up_n (by omega)]
  · simp (disch := decide) only [g_up_ne]; exact (j6 k hk).2
theorem stretch_both (h : JM l c m) {a b : Int} (h1 : -3000000 ≤ a) (h2 : a ≤ 3000000) (h3 : -3000000 ≤ b) (h4 : b ≤ 3000000) (hx : -4096 ≤ m 62 0 * a / 16) (hx' : m 62 0 * a / 16 ≤ 4096) (hy : -4096 ≤ m 62 1 * b / 16) (hy' : m 62 1 * b / 16 ≤ 4096) : Settings_stretch a b c = some (0, g_up (g_up c 22 l (m 62 0 * a / 16)) 23 l (m 62 1 * b / 16)) ∧ JM l (g_up (g_up c 22 l (m 62 0 * a / 16)) 23 l (m 62 1 * b / 16)) (g_up (g_up m 62 0 (m 62 0 * a / 16)) 62 1 (m 62 1 * b / 16)) := by
  have lv := h.lv
  obtain ⟨j1, j2, j3, ⟨⟨e, r⟩, j5⟩, j6⟩ := id h
  simp only [Nat.zero_add] at e r
  have eY : Settings_stretchedY b (g_up c 22 l (m 62 0 * a / 16)) = some (m 62 1 * b / 16, g_up c 22 l (m 62 0 * a / 16)) := by
    have lv' : 0 ≤ w32 (g_up c 22 l (m 62 0 * a / 16) 21 6) ∧ w32 (g_up c 22 l (m 62 0 * a / 16) 21 6) < 5 := by rw [g_up_ne (by decide)]; exact ⟨lv.1, lv.2.1⟩
    have bb := mul_bd (A := 4096) (B := 3000000) (C := 12288000000) (by omega) (by omega) (by omega) (by omega) rfl (x := m 62 1) (y := b)
    unfold Settings_stretchedY
    rw [if_pos lv']
    simp (disch := decide) only [g_up_ne]
    rw [lv.2.2, e.2.1, w32_id (z := m 62 1) (by omega) (by omega), w32_id (z := b) (by omega) (by omega), fdiv_is _ (by decide) (by decide) (by omega) (by omega), g_bi_s]
  refine ⟨?_, j1, ?_, ?_, ⟨?_, ?_⟩, fun k hk => ⟨?_, ?_⟩⟩
  · unfold Settings_stretch
    rw [stX h h1 h2, g_bi_s, if_pos ⟨lv.1, lv.2.1⟩, g_le_s, lv.2.2, eY, g_bi_s, g_up_ne (show 21 ≠ 22 by decide), if_pos ⟨lv.1, lv.2.1⟩, g_le_s, lv.2.2]
  · simp (disch := decide) only [g_up_ne]; exact j2
  · simp (disch := decide) only [g_up_ne]; exact j3
  · unfold SR
    simp (disch := decide) only [g_up_ne, up_y, up_n, Nat.zero_add]
    exact ⟨⟨trivial, trivial, e.2.2⟩, hx, hx', hy, hy', r.2.2.2.2⟩
  · simp (disch := decide) only [g_up_ne]; exact j5
  · refine SR_congr ?_ ?_ ?_ ?_ ?_ (fun i hi => ?_) (j6 k hk).1
    · rw [g_up_ne (by decide), up_n (by omega)]
    · rw [up_n (by omega), g_up_ne (by decide)]
    · simp (disch := decide) only [g_up_ne]
    · simp (disch := decide) only [g_up_ne]
    · simp (disch := decide) only [g_up_ne]
    · rw [up_n (by omega), up_n (by omega)]
  · simp (disch := decide) only [g_up_ne]; exact (j6 k hk).2
theorem grey_both (h : JM l c m) {a : Int} (h1 : 0 ≤ a) (h2 : a ≤ 16) : Settings_setGrey a c = some (0, g_up c 26 l a) ∧ JM l (g_up c 26 l a) (g_up m 62 4 a) := by
  have lv := h.lv
  obtain ⟨j1, j2, j3, ⟨⟨e, r⟩, j5⟩, j6⟩ := id h
  simp only [Nat.zero_add] at e r
  refine ⟨?_, j1, ?_, ?_, ⟨?_, ?_⟩, fun k hk => ⟨?_, ?_⟩⟩
  · unfold Settings_setGrey
    rw [if_pos ⟨lv.1, lv.2.1⟩, g_le_s, lv.2.2]
  · simp (disch := decide) only [g_up_ne]; exact j2
  · simp (disch := decide) only [g_up_ne]; exact j3
  · unfold SR
    simp (disch := decide) only [g_up_ne, up_y, up_n, Nat.zero_add]
    exact ⟨⟨e.1, e.2.1, e.2.2.1, e.2.2.2.1, trivial⟩, r.1, r.2.1, r.2.2.1, r.2.2.2.1, r.2.2.2.2.1, r.2.2.2.2.2.1, r.2.2.2.2.2.2.1, r.2.2.2.2.2.2.2.1, h1, h2⟩
  · simp (disch := decide) only [g_up_ne]; exact j5
  · refine SR_congr ?_ ?_ ?_ ?_ ?_ (fun i hi => ?_) (j6 k hk).1
    · simp (disch := decide) only [g_up_ne]
    · simp (disch := decide) only [g_up_ne]
    · simp (disch := decide) only [g_up_ne]
    · simp (disch := decide) only [g_up_ne]
    · rw [up_n (by omega)]
    · rw [up_n (by omega)]
  · simp (disch := decide) only [g_up_ne]; exact (j6 k hk).2
/-! U -/
theorem cp5 {K : gS → gA} {S : Nat} (hS : 1 ≤ S) (hS4 : S ≤ 4) : ∀ (d i N : Nat) (x : gS), i + d = 5 → x 49 32 = S → ∃ x', M_state_199L K (N + d + 1) i x = K x' ∧ (∀ j, i ≤ j → j < 5 → x' 62 (5 * S + j) = x 62 j) ∧ (∀ j, ¬ (5 * S + i ≤ j ∧ j < 5 * S + 5) → x' 62 j = x 62 j) ∧ ∀ q, q ≠ 62 → x' q = x q := by
  intro d
  induction d with
  | zero =>
    intro i N x hi h3
    refine ⟨x, ?_, fun j j1 j2 => by omega, fun _ _ => rfl, fun _ _ => rfl⟩
    show M_state_199 _ K _ _ = _
    unfold M_state_199
    rw [w_nat (by omega), if_pos (by omega)]
  | succ d ih =>
    intro i N x hi h3
    obtain ⟨x', k1, k2, k3, k4⟩ := ih (i + 1) N (g_up x 62 (5 * S + i) (x 62 i)) (by omega) (by rw [g_up_ne (by decide)]; exact h3)
    refine ⟨x', ?_, fun j j1 j2 => ?_, fun j hj => ?_, fun q hq => ?_⟩
    · show M_state_199 (M_state_199L K (N + d + 1)) K _ _ = _
      unfold M_state_199
      rw [w_nat (by omega), if_neg (by omega), if_pos (by omega), h3, show 5 * (S : Int) + i = ((5 * S + i : Nat) : Int) by omega, w_nat (by omega), if_pos (by omega), g_le_s, Int.toNat_natCast, Int.toNat_natCast]
      exact k1
    · rcases (show j = i ∨ i + 1 ≤ j by omega) with rfl | j3
      · rw [k3 _ (by omega), up_y]
      · rw [k2 j j3 j2, up_n (by omega)]
    · rw [k3 j (by omega), up_n (by omega)]
    · rw [k4 q hq, g_up_ne hq]
theorem cp3072 {S : Nat} (hS : 1 ≤ S) (hS4 : S ≤ 4) : ∀ (d i N : Nat) (x : gS), i + d = 3072 → x 49 32 = S → (∀ j, j < 3072 → x 63 j = 0 ∨ x 63 j = 1) → ∃ x', M_state_235L (N + d + 1) i x = some (0, x') ∧ (∀ j, i ≤ j → j < 3072 → x' 63 (3072 * S + j) = x 63 j) ∧ (∀ j, ¬ (3072 * S + i ≤ j ∧ j < 3072 * S + 3072) → x' 63 j = x 63 j) ∧ ∀ q, q ≠ 63 → x' q = x q := by
  intro d
  induction d with
  | zero =>
    intro i N x hi h3 h01
    refine ⟨x, ?_, fun j j1 j2 => by omega, fun _ _ => rfl, fun _ _ => rfl⟩
    show M_state_235 _ _ _ = _
    unfold M_state_235
    rw [w_nat (by omega), if_pos (by omega)]
  | succ d ih =>
    intro i N x hi h3 h01
    obtain ⟨x', k1, k2, k3, k4⟩ := ih (i + 1) N (g_up x 63 (3072 * S + i) (x 63 i)) (by omega) (by rw [g_up_ne (by decide)]; exact h3) (fun j hj => by rw [up_n (by omega)]; exact h01 j hj)
    refine ⟨x', ?_, fun j j1 j2 => ?_, fun j hj => ?_, fun q hq => ?_⟩
    · show M_state_235 (M_state_235L (N + d + 1)) _ _ = _
      unfold M_state_235
      rw [w_nat (by omega), if_neg (by omega), if_pos (by omega), h3, show 3072 * (S : Int) + i = ((3072 * S + i : Nat) : Int) by omega, w_nat (by omega), if_pos (by omega), g_le_s, Int.toNat_natCast, Int.toNat_natCast, i_nar_01 (h01 i (by omega))]
      exact k1
    · rcases (show j = i ∨ i + 1 ≤ j by omega) with rfl | j3
      · rw [k3 _ (by omega), up_y]
      · rw [k2 j j3 j2, up_n (by omega)]
    · rw [k3 j (by omega), up_n (by omega)]
    · rw [k4 q hq, g_up_ne hq]
theorem save_both (h : JM l c m) (hl : l < 4) : ∃ c' m', Settings_save c = some (0, c') ∧ M_state 85 m = some (0, m') ∧ JM (l + 1) c' m' ∧ fC mC c c' ∧ fM mM m m' := by
  have lv := h.lv
  obtain ⟨j1, j2, j3, ⟨s0, j5⟩, j6⟩ := id h
  have e1 : w32 ((l : Int) + 1) = ((l + 1 : Nat) : Int) := by rw [show (l : Int) + 1 = ((l + 1 : Nat) : Int) by omega, w_nat (by omega)]
  have e2 : w32 ((l : Int) * 48) = ((48 * l : Nat) : Int) := by rw [show (l : Int) * 48 = ((48 * l : Nat) : Int) by omega, w_nat (by omega)]
  have e3 : w32 (((l : Int) + 1) * 48) = ((48 * (l + 1) : Nat) : Int) := by rw [show ((l : Int) + 1) * 48 = ((48 * (l + 1) : Nat) : Int) by omega, w_nat (by omega)]
  have i1 : (0 : Int) ≤ (l : Int) ∧ (l : Int) < 5 := by omega
  have i2 : (0 : Int) ≤ ((l + 1 : Nat) : Int) ∧ ((l + 1 : Nat) : Int) < 5 := by omega
  have i3 : (0 : Int) ≤ ((48 * l : Nat) : Int) ∧ (0 : Int) ≤ ((48 * (l + 1) : Nat) : Int) ∧ (0 : Int) ≤ 48 ∧ ((48 * l : Nat) : Int) + 48 ≤ 240 ∧ ((48 * (l + 1) : Nat) : Int) + 48 ≤ 240 := by omega
  have wl : w32 (l : Int) = l := w_nat (by omega)
  have eC : Settings_save c = some (0, g_up (g_cp (g_up (g_up (g_up (g_up (g_up c 22 (l + 1) (c 22 l)) 23 (l + 1) (c 23 l)) 24 (l + 1) (c 24 l)) 25 (l + 1) (c 25 l)) 26 (l + 1) (c 26 l)) 27 27 (48 * l) (48 * (l + 1)) 48) 21 6 ((l : Int) + 1)) := by
    unfold Settings_save
    rw [j2, wl, if_neg (by omega), g_le_s]
    simp (disch := decide) only [g_le_s, g_up_ne, j2, e1, e2, e3, wl, if_pos i1, if_pos i2, if_pos i3, Int.toNat_natCast]
  obtain ⟨x1, p1, p2, p3, p4⟩ := cp5 (K := M_state_232) (S := l + 1) (by omega) (by omega) 5 0 (1000000000000 - 6) (g_up m 49 32 ((l : Int) + 1)) (by omega) up_y
  rw [show 1000000000000 - 6 + 5 + 1 = gFu from rfl] at p1
  obtain ⟨x2, r1, r2, r3, r4⟩ := cp3072 (S := l + 1) (by omega) (by omega) 3072 0 (1000000000000 - 3073) x1 (by omega) (by rw [p4 49 (by decide)]; exact up_y) (fun j hj => by rw [p4 63 (by decide), g_up_ne (by decide)]; exact j5.b01 hj)
  rw [show 1000000000000 - 3073 + 3072 + 1 = gFu from rfl] at r1
  have m62 : ∀ j, x2 62 j = x1 62 j := fun j => by rw [r4 62 (by decide)]
  have m63 : ∀ j, x1 63 j = m 63 j := fun j => by rw [p4 63 (by decide), g_up_ne (by decide)]
  have eM : M_state 85 m = some (0, x2) := by
    unfold M_state
    rw [if_neg (by decide), if_neg (by decide), if_neg (by decide), if_pos (by decide), g_le_s, j3]
    unfold M_state_232 at p1
    exact p1.trans r1
  have c27 : ∀ j, (g_up (g_cp (g_up (g_up (g_up (g_up (g_up c 22 (l + 1) (c 22 l)) 23 (l + 1) (c 23 l)) 24 (l + 1) (c 24 l)) 25 (l + 1) (c 25 l)) 26 (l + 1) (c 26 l)) 27 27 (48 * l) (48 * (l + 1)) 48) 21 6 ((l : Int) + 1)) 27 j = if 48 * (l + 1) ≤ j ∧ j < 48 * (l + 1) + 48 then c 27 (48 * l + (j - 48 * (l + 1))) else c 27 j := by
    intro j
    rw [g_up_ne (by decide)]
    show (if 27 = 27 ∧ 48 * (l + 1) ≤ j ∧ j < 48 * (l + 1) + 48 then _ else _) = _
    simp (disch := decide) only [g_up_ne, true_and]
  have n62 : ∀ j, j < 5 * (l + 1) → x2 62 j = m 62 j := fun j hj => by
    rw [m62, p3 j (by omega), g_up_ne (by decide)]
  refine ⟨_, x2, eC, eM, ⟨by omega, up_y, by rw [r4 49 (by decide), p4 49 (by decide), up_y]; rfl, ⟨?_, ?_⟩, fun k hk => ⟨?_, ?_⟩⟩, ?_, ?_⟩
  · have s := s0
    unfold SR at s ⊢
    simp only [Nat.zero_add] at s ⊢
    rw [n62 0 (by omega), n62 1 (by omega), n62 2 (by omega), n62 3 (by omega), n62 4 (by omega)]
    simp (disch := decide) only [g_up_ne, g_cp_ne, up_y]
    exact s
  · intro y hy x hx
    show x2 63 _ = if lb (g_up _ 21 6 _ 27 (48 * (l + 1) + y)) (63 - x) then 1 else 0
    rw [c27, if_pos (show 48 * (l + 1) ≤ 48 * (l + 1) + y ∧ 48 * (l + 1) + y < 48 * (l + 1) + 48 by omega), r3 _ (by omega), m63, show 48 * (l + 1) + y - 48 * (l + 1) = y by omega]
    exact j5 y hy x hx
  · rcases (show k = l ∨ k < l by omega) with rfl | hk2
    · have s := s0
      have g := fun j (hj : j < 5) => show x2 62 (5 * (k + 1) + j) = m 62 j by rw [m62, p2 j (by omega) hj, g_up_ne (by decide)]
      have g0 := g 0 (by omega)
      rw [Nat.add_zero] at g0
      unfold SR at s ⊢
      simp only [Nat.zero_add] at s
      rw [g0, g 1 (by omega), g 2 (by omega), g 3 (by omega), g 4 (by omega)]
      simp (disch := first | decide | omega) only [g_up_ne, g_cp_ne, up_n]
      exact s
    · refine SR_congr ?_ ?_ ?_ ?_ ?_ (fun i hi => n62 _ (by omega)) (j6 k hk2).1 <;> simp (disch := first | decide | omega) only [g_up_ne, g_cp_ne, up_n]
  · intro y hy x hx
    show x2 63 (3072 * (k + 1) + (64 * y + x)) = if lb (g_up _ 21 6 _ 27 (48 * k + y)) (63 - x) then 1 else 0
    rw [c27, if_neg (show ¬ (48 * (l + 1) ≤ 48 * k + y ∧ 48 * k + y < 48 * (l + 1) + 48) by omega)]
    rcases (show k = l ∨ k < l by omega) with rfl | hk2
    · rw [r2 (64 * y + x) (by omega) (by omega), m63]
      exact j5 y hy x hx
    · rw [r3 _ (by omega), m63]
      exact (j6 k hk2).2 y hy x hx
  · intro q hq
    have hq' : ¬ (21 ≤ q ∧ q ≤ 27) := by
      intro x
      unfold mC at hq
      rw [decide_eq_true x.1, decide_eq_true x.2] at hq
      cases hq
    rw [g_up_ne (by omega), g_cp_ne (by omega), g_up_ne (by omega), g_up_ne (by omega), g_up_ne (by omega), g_up_ne (by omega), g_up_ne (by omega)]
  · intro q k hq
    have hq' : q ≠ 62 ∧ q ≠ 63 ∧ ¬ (q = 49 ∧ k = 32) := by
      unfold mM at hq
      refine ⟨fun x => ?_, fun x => ?_, fun x => ?_⟩
      · rw [decide_eq_true x] at hq; simp at hq
      · rw [decide_eq_true x] at hq; simp at hq
      · rw [decide_eq_true x.1, decide_eq_true x.2] at hq; simp at hq
    rw [r4 q hq'.2.1, p4 q hq'.1, up_n hq'.2.2]
/-! V -/
theorem cpb5 {K : gS → gA} {S : Nat} (hS : 1 ≤ S) (hS4 : S ≤ 4) : ∀ (d i N : Nat) (x : gS), i + d = 5 → x 49 32 = S → ∃ x', M_state_278L K (N + d + 1) i x = K x' ∧ (∀ j, i ≤ j → j < 5 → x' 62 j = x 62 (5 * S + j)) ∧ (∀ j, ¬ (i ≤ j ∧ j < 5) → x' 62 j = x 62 j) ∧ ∀ q, q ≠ 62 → x' q = x q := by
  intro d
  induction d with
  | zero =>
    intro i N x hi h3
    refine ⟨x, ?_, fun j j1 j2 => by omega, fun _ _ => rfl, fun _ _ => rfl⟩
    show M_state_278 _ K _ _ = _
    unfold M_state_278
    rw [w_nat (by omega), if_pos (by omega)]
  | succ d ih =>
    intro i N x hi h3
    obtain ⟨x', k1, k2, k3, k4⟩ := ih (i + 1) N (g_up x 62 i (x 62 (5 * S + i))) (by omega) (by rw [g_up_ne (by decide)]; exact h3)
    refine ⟨x', ?_, fun j j1 j2 => ?_, fun j hj => ?_, fun q hq => ?_⟩
    · show M_state_278 (M_state_278L K (N + d + 1)) K _ _ = _
      unfold M_state_278
      rw [w_nat (by omega), if_neg (by omega), h3, show 5 * (S : Int) + i = ((5 * S + i : Nat) : Int) by omega, w_nat (by omega), if_pos (by omega), if_pos (by omega), g_le_s, Int.toNat_natCast, Int.toNat_natCast]
      exact k1
    · rcases (show j = i ∨ i + 1 ≤ j by omega) with rfl | j3
      · rw [k3 _ (by omega), up_y]
      · rw [k2 j j3 j2, up_n (by omega)]
    · rw [k3 j (by omega), up_n (by omega)]
    · rw [k4 q hq, g_up_ne hq]
theorem cpb3072 {K : gS → gA} {S : Nat} (hS : 1 ≤ S) (hS4 : S ≤ 4) : ∀ (d i N : Nat) (x : gS), i + d = 3072 → x 49 32 = S → (∀ j, j < 3072 → x 63 (3072 * S + j) = 0 ∨ x 63 (3072 * S + j) = 1) → ∃ x', M_state_314L K (N + d + 1) i x = K x' ∧ (∀ j, i ≤ j → j < 3072 → x' 63 j = x 63 (3072 * S + j)) ∧ (∀ j, ¬ (i ≤ j ∧ j < 3072) → x' 63 j = x 63 j) ∧ ∀ q, q ≠ 63 → x' q = x q := by
  intro d
  induction d with
  | zero =>
    intro i N x hi h3 h01
    refine ⟨x, ?_, fun j j1 j2 => by omega, fun _ _ => rfl, fun _ _ => rfl⟩
    show M_state_314 _ K _ _ = _
    unfold M_state_314
    rw [w_nat (by omega), if_pos (by omega)]
  | succ d ih =>
    intro i N x hi h3 h01
    obtain ⟨x', k1, k2, k3, k4⟩ := ih (i + 1) N (g_up x 63 i (x 63 (3072 * S + i))) (by omega) (by rw [g_up_ne (by decide)]; exact h3) (fun j hj => by rw [up_n (by omega)]; exact h01 j hj)
    refine ⟨x', ?_, fun j j1 j2 => ?_, fun j hj => ?_, fun q hq => ?_⟩
    · show M_state_314 (M_state_314L K (N + d + 1)) K _ _ = _
      unfold M_state_314
      rw [w_nat (by omega), if_neg (by omega), h3, show 3072 * (S : Int) + i = ((3072 * S + i : Nat) : Int) by omega, w_nat (by omega), if_pos (by omega), if_pos (by omega), g_le_s, Int.toNat_natCast, Int.toNat_natCast, i_nar_01 (h01 i (by omega))]
      exact k1
    · rcases (show j = i ∨ i + 1 ≤ j by omega) with rfl | j3
      · rw [k3 _ (by omega), up_y]
      · rw [k2 j j3 j2, up_n (by omega)]
    · rw [k3 j (by omega), up_n (by omega)]
    · rw [k4 q hq, g_up_ne hq]
theorem back_both (h : JM (l + 1) c m) : ∃ c' m', Settings_takeBack c = some (0, c') ∧ M_state 86 m = some (0, m') ∧ JM l c' m' ∧ fC mC c c' ∧ fM mM m m' := by
  obtain ⟨j1, j2, j3, ⟨s0, j5⟩, j6⟩ := id h
  obtain ⟨s1, b1⟩ := j6 l (by omega)
  obtain ⟨x1, p1, p2, p3, p4⟩ := cpb5 (K := M_state_311) (S := l + 1) (by omega) (by omega) 5 0 (1000000000000 - 6) m (by omega) j3
  rw [show 1000000000000 - 6 + 5 + 1 = gFu from rfl] at p1
  have m63 : ∀ j, x1 63 j = m 63 j := fun j => by rw [p4 63 (by decide)]
  obtain ⟨x2, r1, r2, r3, r4⟩ := cpb3072 (K := M_state_351) (S := l + 1) (by omega) (by omega) 3072 0 (1000000000000 - 3073) x1 (by omega) (by rw [p4 49 (by decide)]; exact j3) (fun j hj => by rw [m63]; exact b1.b01 hj)
  rw [show 1000000000000 - 3073 + 3072 + 1 = gFu from rfl] at r1
  have eC : Settings_takeBack c = some (0, g_up c 21 6 l) := by
    unfold Settings_takeBack
    rw [j2, w_nat (by omega), if_neg (by omega), g_le_s]
    congr 3
    omega
  have eM : M_state 86 m = some (0, g_up x2 49 32 l) := by
    unfold M_state
    rw [if_neg (by decide), if_neg (by decide), if_neg (by decide), if_neg (by decide), if_pos (by decide)]
    unfold M_state_311 at p1
    have e : M_state_351 x2 = some (0, g_up x2 49 32 l) := by
      unfold M_state_351
      rw [g_le_s, r4 49 (by decide), p4 49 (by decide), j3]
      congr 3
      omega
    exact p1.trans (r1.trans e)
  have m62 : ∀ j, g_up x2 49 32 l 62 j = x1 62 j := fun j => by rw [g_up_ne (by decide), r4 62 (by decide)]
  have n63 : ∀ j, g_up x2 49 32 l 63 j = x2 63 j := fun j => by rw [g_up_ne (by decide)]
  refine ⟨_, _, eC, eM, ⟨by omega, up_y, up_y, ⟨?_, ?_⟩, fun k hk => ⟨?_, ?_⟩⟩, fC_up rfl, ?_⟩
  · have s := s1
    have g := fun j (hj : j < 5) => show g_up x2 49 32 l 62 j = m 62 (5 * (l + 1) + j) by rw [m62, p2 j (by omega) hj]
    have g0 := g 0 (by omega)
    rw [Nat.add_zero] at g0
    unfold SR at s ⊢
    simp only [Nat.zero_add]
    rw [g0, g 1 (by omega), g 2 (by omega), g 3 (by omega), g 4 (by omega)]
    simp (disch := decide) only [g_up_ne]
    exact s
  · intro y hy x hx
    show g_up x2 49 32 l 63 _ = if lb (g_up c 21 6 l 27 (48 * l + y)) (63 - x) then 1 else 0
    rw [n63, r2 _ (by omega) (by omega), m63, g_up_ne (by decide)]
    exact b1 y hy x hx
  · refine SR_congr ?_ ?_ ?_ ?_ ?_ (fun i hi => ?_) (j6 k (by omega)).1
    · rw [g_up_ne (by decide)]
    · rw [g_up_ne (by decide)]
    · rw [g_up_ne (by decide)]
    · rw [g_up_ne (by decide)]
    · rw [g_up_ne (by decide)]
    · rw [m62, p3 _ (by omega)]
  · intro y hy x hx
    show g_up x2 49 32 l 63 (3072 * (k + 1) + (64 * y + x)) = if lb (g_up c 21 6 l 27 (48 * k + y)) (63 - x) then 1 else 0
    rw [n63, r3 _ (by omega), m63, g_up_ne (by decide)]
    exact (j6 k (by omega)).2 y hy x hx
  · intro q k hq
    have hq' : q ≠ 62 ∧ q ≠ 63 ∧ ¬ (q = 49 ∧ k = 32) := by
      unfold mM at hq
      refine ⟨fun x => ?_, fun x => ?_, fun x => ?_⟩
      · rw [decide_eq_true x] at hq; simp at hq
      · rw [decide_eq_true x] at hq; simp at hq
      · rw [decide_eq_true x.1, decide_eq_true x.2] at hq; simp at hq
    rw [up_n hq'.2.2, r4 q hq'.2.1, p4 q hq'.1]
end SE

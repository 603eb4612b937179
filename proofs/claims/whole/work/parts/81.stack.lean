/-! the stack and the variables -/
theorem l_div_eq {x y : Int} (hx : w64 x = x) (hy : w64 y = y) : l_div x y = w64 (x.tdiv y) := by
  unfold l_div
  rw [Int64.toInt_div, w64_toInt, w64_toInt, hx, hy]
  generalize x.tdiv y = q
  simp only [Int.bmod, w64]
  split <;> omega
theorem i_div_eq {x y : Int} (hx : w32 x = x) (hy : w32 y = y) : i_div x y = w32 (x.tdiv y) := by
  unfold i_div
  rw [Int32.toInt_div, w32_toInt, w32_toInt, hx, hy]
  generalize x.tdiv y = q
  simp only [Int.bmod, w32]
  split <;> omega
theorem tdiv_lo {x y : Int} {B : Nat} (h : -(B : Int) ≤ x) (h' : x ≤ B) : -(B : Int) ≤ x.tdiv y ∧ x.tdiv y ≤ B := by
  have e := Int.natAbs_tdiv x y
  have : (x.tdiv y).natAbs ≤ x.natAbs := by rw [e]; exact Nat.div_le_self _ _
  omega
theorem tmod_lo {x y : Int} {B : Nat} (h : -(B : Int) ≤ x) (h' : x ≤ B) : -(B : Int) ≤ x.tmod y ∧ x.tmod y ≤ B := by
  have e := Int.natAbs_tmod x y
  have : (x.tmod y).natAbs ≤ x.natAbs := by rw [e]; exact Nat.mod_le _ _
  omega
theorem l_rem_eq {x y : Int} (hx : w64 x = x) (hy : w64 y = y) : l_rem x y = w64 (x.tmod y) := by
  have h : Int64.ofInt x / Int64.ofInt y = Int64.ofInt (x.tdiv y) := by
    have e := l_div_eq hx hy
    rw [← w64_ofInt (x.tdiv y), ← e]
    exact (Int64.ofInt_toInt _).symm
  unfold l_rem
  rw [h, ← Int64.ofInt_mul, ← Int64.ofInt_sub, w64_toInt, Int.tmod_def, Int.mul_comm y]
theorem i_rem_eq {x y : Int} (hx : w32 x = x) (hy : w32 y = y) : i_rem x y = w32 (x.tmod y) := by
  have h : Int32.ofInt x / Int32.ofInt y = Int32.ofInt (x.tdiv y) := by
    have e := i_div_eq hx hy
    rw [← w32_ofInt (x.tdiv y), ← e]
    exact (Int32.ofInt_toInt _).symm
  unfold i_rem
  rw [h, ← Int32.ofInt_mul, ← Int32.ofInt_sub, w32_toInt, Int.tmod_def, Int.mul_comm y]
/-- a value: a number, or the place of a procedure -/
def VR (L : Nat) (c m : gS) (i : Nat) : Prop := (m 54 i = 0 ∧ c 19 i = m 52 i ∧ -1000000 ≤ m 52 i ∧ m 52 i ≤ 1000000) ∨ (m 54 i = 1 ∧ ∃ j : Nat, m 52 i = j ∧ c 19 i = 2000000 + (j : Int) ∧ j < L ∧ m 51 j = 123)
def JV (L n : Nat) (c m : gS) : Prop := L ≤ 300 ∧ n ≤ 32 ∧ c 18 1 = n ∧ m 49 13 = n ∧ ∀ i, i < n → VR L c m i
def JW (c m : gS) : Prop := ∀ i, i < 26 → c 20 i = m 53 i ∧ -1000000 ≤ m 53 i ∧ m 53 i ≤ 1000000
def vC (q : Nat) : Bool := decide (q = 18) || decide (q = 19)
def vM (q k : Nat) : Bool := (decide (q = 49) && decide (k = 13)) || decide (q = 52) || decide (q = 54)
section ST
variable {L n : Nat} {c m c' m' : gS}
theorem VR_congr {i : Nat} (h1 : c' 19 i = c 19 i) (h2 : m' 52 i = m 52 i) (h3 : m' 54 i = m 54 i) (h4 : m' 51 = m 51) (h : VR L c m i) : VR L c' m' i := by
  unfold VR
  rw [h1, h2, h3, h4]
  exact h
theorem JV_congr (h1 : c' 18 1 = c 18 1) (h2 : c' 19 = c 19) (h3 : m' 49 13 = m 49 13) (h4 : m' 52 = m 52) (h5 : m' 54 = m 54) (h6 : m' 51 = m 51) (h : JV L n c m) : JV L n c' m' := by
  unfold JV VR
  rw [h1, h2, h3, h4, h5, h6]
  exact h
theorem JW_congr (h1 : c' 20 = c 20) (h2 : m' 53 = m 53) (h : JW c m) : JW c' m' := by
  unfold JW
  rw [h1, h2]
  exact h
theorem VR.w {i : Nat} (hL : L ≤ 300) (h : VR L c m i) : w32 (c 19 i) = c 19 i ∧ w32 (m 52 i) = m 52 i ∧ w32 (m 54 i) = m 54 i ∧ (m 54 i = 0 ∨ m 54 i = 1) := by
  rcases h with ⟨a, b, x, y⟩ | ⟨a, j, b, x, y, -⟩
  · rw [b, a]
    exact ⟨w32_id (by omega) (by omega), w32_id (by omega) (by omega), rfl, Or.inl rfl⟩
  · rw [b, x, a]
    exact ⟨w32_id (by omega) (by omega), w32_id (by omega) (by omega), rfl, Or.inr rfl⟩
theorem VR.num {i : Nat} (h : VR L c m i) (e : m 54 i = 0) : c 19 i = m 52 i ∧ -1000000 ≤ m 52 i ∧ m 52 i ≤ 1000000 := by
  rcases h with ⟨a, b⟩ | ⟨a, -⟩
  · exact b
  · omega
theorem VR.prc {i : Nat} (h : VR L c m i) (e : m 54 i = 1) : ∃ j : Nat, m 52 i = j ∧ c 19 i = 2000000 + (j : Int) ∧ j < L ∧ m 51 j = 123 := by
  rcases h with ⟨a, b⟩ | ⟨a, b⟩
  · omega
  · exact b
theorem peek_in (h1 : c 18 1 = n) (hn : n ≤ 32) (a : Int) (k : Nat) (ha : a = k) (hk : k < n) : Values_peek a c = some (c 19 (n - 1 - k), c) := by
  subst ha
  unfold Values_peek
  rw [h1, w_nat (by omega), w_nat (by omega), if_neg (by omega), if_pos (by omega), show (n : Int) - 1 - k = ((n - 1 - k : Nat) : Int) by omega, w_nat (by omega), if_pos (by omega), Int.toNat_natCast]
theorem peek_any (h1 : c 18 1 = n) (hn : n ≤ 32) (a : Int) (k : Nat) (ha : a = k) (hk : k ≤ 100) : ∃ z, Values_peek a c = some (z, c) := by
  by_cases q : k < n
  · exact ⟨_, peek_in h1 hn a k ha q⟩
  · subst ha
    unfold Values_peek
    rw [h1, w_nat (by omega), w_nat (by omega), if_neg (by omega), if_neg (by omega)]
    exact ⟨_, rfl⟩
theorem num_in (h1 : m 49 13 = n) (hn : n ≤ 32) (a : Int) (k : Nat) (ha : a = k) (hk : k < n) : M_number a m = some (m 52 (n - 1 - k), m) := by
  subst ha
  unfold M_number
  rw [h1, show (n : Int) - 1 - k = ((n - 1 - k : Nat) : Int) by omega, w_nat (by omega), if_pos (by omega), Int.toNat_natCast]
theorem drop_is (h1 : c 18 1 = n) (hn : n ≤ 32) (a : Int) (k : Nat) (ha : a = k) (hk : k ≤ n) : Values_drop a c = some (0, g_up c 18 1 ((n - k : Nat) : Int)) := by
  subst ha
  unfold Values_drop Math_max
  rw [h1, show (n : Int) - k = ((n - k : Nat) : Int) by omega, w_nat (by omega)]
  by_cases q : (0 : Int) < ((n - k : Nat) : Int)
  · rw [show w32 0 = 0 from rfl, if_pos q, g_bi_s, g_le_s]
  · rw [show w32 0 = 0 from rfl, if_neg q, g_bi_s, g_le_s, show ((n - k : Nat) : Int) = 0 by omega]
theorem push_C (h1 : c 18 1 = n) (hn : n < 32) (x : Int) : Values_push x c = some (0, g_up (g_up c 19 n x) 18 1 ((n + 1 : Nat) : Int)) := by
  unfold Values_push
  rw [h1, w_nat (by omega), if_neg (by omega), if_pos (by omega), g_le_s, g_le_s, Int.toNat_natCast, g_up_ne (by decide), h1]
  rfl
theorem push_M (h1 : m 49 13 = n) (hn : n < 33) (x : Int) {p : Int} (hp : p = 0 ∨ p = 1) : M_push x p m = some (0, g_up (g_up (g_up m 52 n x) 54 n p) 49 13 ((n + 1 : Nat) : Int)) := by
  unfold M_push
  rw [h1, w_nat (by omega), if_pos (by omega), g_le_s, g_up_ne (by decide), h1, w_nat (by omega), if_pos (by omega), g_le_s, g_le_s, Int.toNat_natCast, i_nar_01 hp, g_up_ne (by decide), g_up_ne (by decide), h1]
  rfl
theorem JV_drop (h : JV L n c m) {k : Nat} (hk : k ≤ n) : JV L (n - k) (g_up c 18 1 ((n - k : Nat) : Int)) (g_up m 49 13 ((n - k : Nat) : Int)) := by
  obtain ⟨h0, h1, h2, h3, h4⟩ := h
  refine ⟨h0, by omega, up_y, up_y, fun i hi => VR_congr ?_ ?_ ?_ ?_ (h4 i (by omega))⟩ <;> rw [g_up_ne (by decide)]
theorem JV_push (h : JV L n c m) (hn : n < 32) {x y p : Int} (hv : (p = 0 ∧ x = y ∧ -1000000 ≤ y ∧ y ≤ 1000000) ∨ (p = 1 ∧ ∃ j : Nat, y = j ∧ x = 2000000 + (j : Int) ∧ j < L ∧ m 51 j = 123)) : JV L (n + 1) (g_up (g_up c 19 n x) 18 1 ((n + 1 : Nat) : Int)) (g_up (g_up (g_up m 52 n y) 54 n p) 49 13 ((n + 1 : Nat) : Int)) := by
  obtain ⟨h0, h1, h2, h3, h4⟩ := h
  refine ⟨h0, by omega, up_y, up_y, fun i hi => ?_⟩
  by_cases e : i = n
  · unfold VR
    subst e
    simp (disch := decide) only [g_up_ne, up_y]
    exact hv
  · refine VR_congr ?_ ?_ ?_ ?_ (h4 i (by omega))
    · rw [g_up_ne (by decide), up_n (by omega)]
    · rw [g_up_ne (by decide), g_up_ne (by decide), up_n (by omega)]
    · rw [g_up_ne (by decide), up_n (by omega), g_up_ne (by decide)]
    · rw [g_up_ne (by decide), g_up_ne (by decide), g_up_ne (by decide)]
theorem fC_push {x : Int} {n : Nat} : fC vC c (g_up (g_up c 19 n x) 18 1 ((n + 1 : Nat) : Int)) := fC_tr (fC_up rfl) (fC_up rfl)
theorem fM_push {x p : Int} {n : Nat} : fM vM m (g_up (g_up (g_up m 52 n x) 54 n p) 49 13 ((n + 1 : Nat) : Int)) := fM_tr (fM_tr (fM_up rfl) (fM_up rfl)) (fM_up rfl)
/-! kinds -/
def pcn (w : Int) : Int := if w = 63 then 2 else if w = 82 then 1 else 0
theorem kinds_loop (h : JV L n c m) {w : Int} (hw : w32 w = w) {e : Nat} (he : e ≤ n) : ∀ (d k N : Nat), k + d = e → ∃ b : Int, (b = 0 ∨ b = 1) ∧ Job_kindsFit_45L (N + d + 1) e (pcn w) k c = some (b, c) ∧ M_isKind_22L (N + d + 1) w e k m = some (b, m) ∧ (b = 1 → ∀ j : Nat, k ≤ j → j < e → m 54 (n - 1 - j) = if (j : Int) < pcn w then 1 else 0) := by
  obtain ⟨h0, h1, h2, h3, h4⟩ := h
  have hp : 0 ≤ pcn w ∧ pcn w ≤ 2 := by unfold pcn; split <;> (try split) <;> omega
  intro d
  induction d with
  | zero =>
    intro k N hk
    refine ⟨1, Or.inr rfl, ?_, ?_, fun _ j j1 j2 => by omega⟩
    · show Job_kindsFit_45 _ _ _ _ _ = _
      unfold Job_kindsFit_45
      rw [w_nat (by omega), w_nat (by omega), if_pos (by omega)]
    · show M_isKind_22 _ _ _ _ _ = _
      unfold M_isKind_22
      rw [w_nat (by omega), w_nat (by omega), if_pos (by omega)]
  | succ d ih =>
    intro k N hk
    have v := h4 (n - 1 - k) (by omega)
    obtain ⟨v1, v2, v3, v4⟩ := v.w h0
    have eC : Job_kindsFit_45L (N + (d + 1) + 1) e (pcn w) k c = if m 54 (n - 1 - k) = (if (k : Int) < pcn w then 1 else 0) then Job_kindsFit_45L (N + d + 1) e (pcn w) ((k + 1 : Nat) : Int) c else some (0, c) := by
      show Job_kindsFit_45 (Job_kindsFit_45L (N + d + 1)) _ _ _ _ = _
      unfold Job_kindsFit_45 Values_isProcedure Job_kindsFit_71
      rw [w_nat (by omega), w_nat (by omega), if_neg (by omega), peek_in h2 h1 k k rfl (by omega), g_bi_s, v1, w32_id (z := pcn w) (by omega) (by omega)]
      have ev : (if c 19 (n - 1 - k) < 2000000 then some ((0 : Int), c) else some (1, c)) = some (m 54 (n - 1 - k), c) := by
        rcases v with ⟨a, b, x, y⟩ | ⟨a, j, b, x, y, -⟩
        · rw [if_pos (by omega), a]
        · rw [if_neg (by omega), a]
      rw [ev, g_bi_s, v3]
      by_cases q : pcn w ≤ k
      · rw [if_pos q, if_neg (show ¬ (k : Int) < pcn w by omega)]
        rfl
      · rw [if_neg q, if_pos (show (k : Int) < pcn w by omega)]
        rfl
    have eM : M_isKind_22L (N + (d + 1) + 1) w e k m = if m 54 (n - 1 - k) = (if (k : Int) < pcn w then 1 else 0) then M_isKind_22L (N + d + 1) w e ((k + 1 : Nat) : Int) m else some (0, m) := by
      show M_isKind_22 (M_isKind_22L (N + d + 1)) _ _ _ _ = _
      have e61 : ∀ t : Int, w32 t = t → M_isKind_61 (M_isKind_22L (N + d + 1)) w e k t m = if m 54 (n - 1 - k) = t then M_isKind_22L (N + d + 1) w e ((k + 1 : Nat) : Int) m else some (0, m) := by
        intro t ht
        unfold M_isKind_61
        rw [h3, show (n : Int) - 1 - k = ((n - 1 - k : Nat) : Int) by omega, w_nat (by omega), if_pos (by omega), Int.toNat_natCast, v3, ht]
        rfl
      unfold M_isKind_22 M_isKind_60
      rw [w_nat (by omega), w_nat (by omega), if_neg (by omega), hw]
      unfold pcn
      by_cases q1 : w = 63
      · rw [if_pos q1, if_pos q1]
        by_cases q3 : (2 : Int) ≤ k
        · rw [if_pos q3, e61 0 rfl, if_neg (show ¬ (k : Int) < 2 by omega)]
        · rw [if_neg q3, e61 1 rfl, if_pos (show (k : Int) < 2 by omega)]
      · rw [if_neg q1, if_neg q1]
        by_cases q2 : w = 82
        · rw [if_pos q2, if_pos q2]
          by_cases q3 : (k : Int) = 0
          · rw [if_pos q3, e61 1 rfl, if_pos (show (k : Int) < 1 by omega)]
          · rw [if_neg q3, e61 0 rfl, if_neg (show ¬ (k : Int) < 1 by omega)]
        · rw [if_neg q2, if_neg q2, e61 0 rfl, if_neg (show ¬ (k : Int) < 0 by omega)]
    rw [eC, eM]
    by_cases q : m 54 (n - 1 - k) = (if (k : Int) < pcn w then 1 else 0)
    · rw [if_pos q, if_pos q]
      obtain ⟨b, b0, b1, b2, b3⟩ := ih (k + 1) N (by omega)
      refine ⟨b, b0, b1, b2, fun hb j j1 j2 => ?_⟩
      rcases (show j = k ∨ k + 1 ≤ j by omega) with rfl | j3
      · exact q
      · exact b3 hb j j3 j2
    · rw [if_neg q, if_neg q]
      exact ⟨0, Or.inl rfl, rfl, rfl, fun hb => by omega⟩
theorem kinds_both (h : JV L n c m) {w : Int} (hw : w32 w = w) (hn : nd w ≤ n) : ∃ b : Int, (b = 0 ∨ b = 1) ∧ Job_kindsFit w (nd w) c = some (b, c) ∧ M_isKind w (nd w) m = some (b, m) ∧ (b = 1 → w ≠ 68 → w ≠ 88 → w ≠ 79 → ∀ j : Nat, (j : Int) < nd w → m 54 (n - 1 - j) = if (j : Int) < pcn w then 1 else 0) := by
  unfold Job_kindsFit M_isKind Job_kindsFit_41
  rw [hw]
  by_cases q1 : w = 68
  · rw [if_pos q1, if_pos q1]
    exact ⟨1, Or.inr rfl, rfl, rfl, fun _ x => absurd q1 x⟩
  rw [if_neg q1, if_neg q1]
  by_cases q2 : w = 88
  · rw [if_pos q2, if_pos q2]
    exact ⟨1, Or.inr rfl, rfl, rfl, fun _ _ x => absurd q2 x⟩
  rw [if_neg q2, if_neg q2]
  by_cases q3 : w = 79
  · rw [if_pos q3, if_pos q3]
    exact ⟨1, Or.inr rfl, rfl, rfl, fun _ _ _ x => absurd q3 x⟩
  rw [if_neg q3, if_neg q3]
  have h32 := h.2.1
  obtain ⟨e, he⟩ : ∃ e : Nat, nd w = e := ⟨(nd w).toNat, by have : 0 ≤ nd w := by { unfold nd; repeat' split <;> omega }; omega⟩
  rw [he] at hn ⊢
  obtain ⟨b, b0, b1, b2, b3⟩ := kinds_loop h hw (e := e) (by omega) e 0 (1000000000000 - e - 1) (by omega)
  rw [show 1000000000000 - e - 1 + e + 1 = gFu by show _ = 1000000000000; omega] at b1 b2
  refine ⟨b, b0, ?_, b2, fun hb _ _ _ j hj => b3 hb j (by omega) (by omega)⟩
  unfold pcn at b1
  by_cases q4 : w = 63
  · rw [if_pos q4] at b1 ⊢
    exact b1
  · rw [if_neg q4] at b1 ⊢
    by_cases q5 : w = 82
    · rw [if_pos q5] at b1 ⊢
      exact b1
    · rw [if_neg q5] at b1 ⊢
      exact b1
/-! words that reckon -/
def res (w a b : Int) : Int := if w = 43 then a + b else if w = 45 then a - b else if w = 42 then a * b else if w = 47 then a.tdiv b else if w = 37 then a.tmod b else if w = 60 then (if a < b then 1 else 0) else if w = 61 then (if a = b then 1 else 0) else 0
abbrev isA (w : Int) : Prop := w = 43 ∨ w = 45 ∨ w = 42 ∨ w = 47 ∨ w = 37 ∨ w = 60 ∨ w = 61
theorem resC {w a b : Int} (h2 : c 18 1 = n) (hn : n ≤ 32) (h2n : 2 ≤ n) (ha : c 19 (n - 2) = a) (hb : c 19 (n - 1) = b) (a0 : -1000000 ≤ a) (a1 : a ≤ 1000000) (b0 : -1000000 ≤ b) (b1 : b ≤ 1000000) (hw : isA w) (hz : (w = 47 ∨ w = 37) → b ≠ 0) : Job_resultOf w c = some (res w a b, c) := by
  have p1 := peek_in h2 hn 1 1 rfl (by omega)
  have p0 := peek_in h2 hn 0 0 rfl (by omega)
  rw [show n - 1 - 1 = n - 2 by omega, ha] at p1
  rw [show n - 1 - 0 = n - 1 by omega, hb] at p0
  have wa : w32 a = a := w32_id (by omega) (by omega)
  have wb : w32 b = b := w32_id (by omega) (by omega)
  have la : w64 a = a := w64_id (by omega) (by omega)
  have lb : w64 b = b := w64_id (by omega) (by omega)
  unfold Job_resultOf
  rw [p1, g_bi_s, g_le_s, p0, g_bi_s, g_le_s, wa, wb]
  rcases hw with rfl | rfl | rfl | rfl | rfl | rfl | rfl
  · simp (decide := true) only [if_false, if_true, res]
  · simp (decide := true) only [if_false, if_true, res]
  · simp (decide := true) only [if_false, if_true, res]
  · have := hz (by decide)
    have t := tdiv_lo (x := a) (y := b) (B := 1000000) (by omega) (by omega)
    simp (decide := true) only [if_false, if_true, res]
    rw [l_cmp_s lb (by decide), if_neg (by split <;> (try split) <;> omega), if_pos (by omega), l_div_eq la lb, w64_id (by omega) (by omega)]
  · have := hz (by decide)
    have t := tmod_lo (x := a) (y := b) (B := 1000000) (by omega) (by omega)
    simp (decide := true) only [if_false, if_true, res]
    rw [l_cmp_s lb (by decide), if_neg (by split <;> (try split) <;> omega), if_pos (by omega), l_rem_eq la lb, w64_id (by omega) (by omega)]
  · simp (decide := true) only [if_false, if_true, res]
    rw [l_cmp_s la lb]
    by_cases q : a < b
    · rw [if_neg (by split <;> (try split) <;> omega), if_pos q]
    · rw [if_pos (by split <;> (try split) <;> omega), if_neg q]
  · simp (decide := true) only [if_false, if_true, res]
    rw [l_cmp_s la lb]
    by_cases q : a = b
    · rw [if_pos (by rw [if_neg (by omega), if_pos q]), if_pos q]
    · rw [if_neg (by split <;> (try split) <;> omega), if_neg q]
theorem resM {w a b : Int} (h2 : m 49 13 = n) (hn : n ≤ 32) (h2n : 2 ≤ n) (ha : m 52 (n - 2) = a) (hb : m 52 (n - 1) = b) (a0 : -1000000 ≤ a) (a1 : a ≤ 1000000) (b0 : -1000000 ≤ b) (b1 : b ≤ 1000000) (hw : w = 43 ∨ w = 45 ∨ w = 42 ∨ (w = 47 ∧ b ≠ 0)) : M_result w m = some (res w a b, m) := by
  have p1 := num_in h2 hn 1 1 rfl (by omega)
  have p0 := num_in h2 hn 0 0 rfl (by omega)
  rw [show n - 1 - 1 = n - 2 by omega, ha] at p1
  rw [show n - 1 - 0 = n - 1 by omega, hb] at p0
  have wa : w32 a = a := w32_id (by omega) (by omega)
  have wb : w32 b = b := w32_id (by omega) (by omega)
  unfold M_result
  rw [p1, g_bi_s, g_le_s, p0, g_bi_s, g_le_s, wa, wb]
  rcases hw with rfl | rfl | rfl | ⟨rfl, hz⟩
  · simp (decide := true) only [if_true, res]
  · simp (decide := true) only [if_false, if_true, res]
  · simp (decide := true) only [if_false, if_true, res]
  · have t := tdiv_lo (x := a) (y := b) (B := 1000000) (by omega) (by omega)
    simp (decide := true) only [if_false, if_true, res]
    unfold M_quotient
    rw [p0, g_bi_s, wb, if_neg hz, p1, g_bi_s, p0, g_bi_s, wb, if_pos hz, g_bi_s, i_div_eq wa wb, w32_id (z := a.tdiv b) (by omega) (by omega), w32_id (z := a.tdiv b) (by omega) (by omega)]
theorem reck_bin (h : JV L n c m) (h2n : 2 ≤ n) {w a b : Int} (hw : isA w) (hka : m 54 (n - 2) = 0) (hkb : m 54 (n - 1) = 0) (ea : m 52 (n - 2) = a) (eb : m 52 (n - 1) = b) (hz : (w = 47 ∨ w = 37) → b ≠ 0) (hr : w = 43 ∨ w = 45 ∨ w = 42 → -1000000 ≤ res w a b ∧ res w a b ≤ 1000000) : ∃ c' m', Job_reckon w c = some (0, c') ∧ M_reckon w m = some (0, m') ∧ JV L (n - 1) c' m' ∧ fC vC c c' ∧ fM vM m m' := by
  obtain ⟨h0, h1, h2, h3, h4⟩ := id h
  obtain ⟨va, a0, a1⟩ := (h4 (n - 2) (by omega)).num hka
  obtain ⟨vb, b0, b1⟩ := (h4 (n - 1) (by omega)).num hkb
  rw [ea] at va a0 a1
  rw [eb] at vb b0 b1
  have rC := resC h2 h1 h2n va vb a0 a1 b0 b1 hw hz
  have wa : w32 a = a := w32_id (by omega) (by omega)
  have wb : w32 b = b := w32_id (by omega) (by omega)
  have p1 := peek_in h2 h1 1 1 rfl (by omega)
  have p0 := peek_in h2 h1 0 0 rfl (by omega)
  have n1 := num_in h3 h1 1 1 rfl (by omega)
  have n0 := num_in h3 h1 0 0 rfl (by omega)
  rw [show n - 1 - 1 = n - 2 by omega, ea] at n1
  rw [show n - 1 - 0 = n - 1 by omega, eb] at n0
  have hww : w32 w = w := by rcases hw with rfl | rfl | rfl | rfl | rfl | rfl | rfl <;> decide
  have hnd : nd w = 2 := by rcases hw with rfl | rfl | rfl | rfl | rfl | rfl | rfl <;> decide
  have hisW : isW w := by rcases hw with rfl | rfl | rfl | rfl | rfl | rfl | rfl <;> decide
  have nC := needsC c hww
  have nM := needsM m hww
  rw [hnd] at nC
  rw [if_pos hisW, hnd] at nM
  have hres : -1000000 ≤ res w a b ∧ res w a b ≤ 1000000 := by
    rcases hw with e | e | e | e | e | e | e
    · exact hr (by omega)
    · exact hr (by omega)
    · exact hr (by omega)
    · have t := tdiv_lo (x := a) (y := b) (B := 1000000) (by omega) (by omega)
      subst e
      simp (decide := true) only [if_false, if_true, res]
      omega
    · have t := tmod_lo (x := a) (y := b) (B := 1000000) (by omega) (by omega)
      subst e
      simp (decide := true) only [if_false, if_true, res]
      omega
    · subst e
      simp (decide := true) only [if_false, if_true, res]
      split <;> omega
    · subst e
      simp (decide := true) only [if_false, if_true, res]
      split <;> omega
  have hJ := JV_push (JV_drop h (k := 2) h2n) (by omega) (x := res w a b) (y := res w a b) (p := 0) (Or.inl ⟨rfl, rfl, hres⟩)
  rw [show n - 2 + 1 = n - 1 by omega] at hJ
  have pC := push_C (c := g_up c 18 1 ((n - 2 : Nat) : Int)) (n := n - 2) up_y (by omega) (res w a b)
  have pM := fun x : Int => push_M (m := g_up m 49 13 ((n - 2 : Nat) : Int)) (n := n - 2) up_y (by omega) x (p := 0) (Or.inl rfl)
  rw [show n - 2 + 1 = n - 1 by omega] at pC
  simp only [show n - 2 + 1 = n - 1 by omega] at pM
  refine ⟨_, _, ?_, ?_, hJ, fC_tr (fC_up rfl) (fC_tr (fC_up rfl) (fC_up rfl)), fM_tr (fM_up rfl) (fM_tr (fM_tr (fM_up rfl) (fM_up rfl)) (fM_up rfl))⟩
  · unfold Job_reckon
    rw [p0, g_bi_s, p1, g_bi_s, rC, g_bi_s, hww, if_neg (by rcases hw with rfl | rfl | rfl | rfl | rfl | rfl | rfl <;> decide), nC, g_bi_s, drop_is h2 h1 2 2 rfl h2n, g_bi_s]
    unfold Job_reckon_43
    rw [hww, if_neg (by rcases hw with rfl | rfl | rfl | rfl | rfl | rfl | rfl <;> decide), if_neg (by rcases hw with rfl | rfl | rfl | rfl | rfl | rfl | rfl <;> decide), if_neg (by rcases hw with rfl | rfl | rfl | rfl | rfl | rfl | rfl <;> decide), if_neg (by rcases hw with rfl | rfl | rfl | rfl | rfl | rfl | rfl <;> decide), pC, g_bi_s]
  · have eM : M_result w m = some (if w = 43 ∨ w = 45 ∨ w = 42 ∨ w = 47 then res w a b else 0, m) := by
      by_cases q : w = 43 ∨ w = 45 ∨ w = 42 ∨ w = 47
      · rw [if_pos q]
        refine resM h3 h1 h2n ea eb a0 a1 b0 b1 ?_
        rcases q with q | q | q | q
        · exact Or.inl q
        · exact Or.inr (Or.inl q)
        · exact Or.inr (Or.inr (Or.inl q))
        · exact Or.inr (Or.inr (Or.inr ⟨q, hz (Or.inl q)⟩))
      · rw [if_neg q]
        unfold M_result
        rw [n1, g_bi_s, g_le_s, n0, g_bi_s, g_le_s, hww, if_neg (by omega), if_neg (by omega), if_neg (by omega), if_neg (by omega)]
    unfold M_reckon
    rw [hww, if_neg (by rcases hw with rfl | rfl | rfl | rfl | rfl | rfl | rfl <;> decide), h3, w_nat (by omega), if_neg (by omega), n1, g_bi_s]
    unfold M_reckon_69
    rw [n0, g_bi_s, eM, g_bi_s, nM, g_bi_s, g_le_s, h3, show (n : Int) - 2 = ((n - 2 : Nat) : Int) by omega, hww, wa, wb]
    unfold M_reckon_154 M_reckon_172
    rcases hw with rfl | rfl | rfl | rfl | rfl | rfl | rfl
    · simp (decide := true) only [if_false, if_true, pM, g_bi_s]
    · simp (decide := true) only [if_false, if_true, pM, g_bi_s]
    · simp (decide := true) only [if_false, if_true, pM, g_bi_s]
    · simp (decide := true) only [if_false, if_true, pM, g_bi_s]
    · have t := tmod_lo (x := a) (y := b) (B := 1000000) (by omega) (by omega)
      rw [if_pos (by decide), if_pos (hz (by decide)), i_rem_eq wa wb, w32_id (by omega) (by omega)]
      simp (decide := true) only [if_false, if_true, pM, g_bi_s, res]
    · rw [if_neg (by decide), if_pos (by decide)]
      simp (decide := true) only [if_false, if_true, pM, g_bi_s, res]
      by_cases q : a < b
      · rw [if_neg (by omega), if_pos q]
      · rw [if_pos (by omega), if_neg q]
    · rw [if_neg (by decide), if_neg (by decide), if_pos (by decide)]
      simp (decide := true) only [if_false, if_true, pM, g_bi_s, res]
      by_cases q : a = b
      · rw [if_pos q, if_pos q]
      · rw [if_neg q, if_neg q]
theorem res0 (h2 : c 18 1 = n) (hn : n ≤ 32) {w : Int} (hw : w = 68 ∨ w = 79 ∨ w = 88 ∨ w = 126) : Job_resultOf w c = some (0, c) := by
  obtain ⟨x, p1⟩ := peek_any h2 hn 1 1 rfl (by omega)
  obtain ⟨y, p0⟩ := peek_any h2 hn 0 0 rfl (by omega)
  unfold Job_resultOf
  rw [p1, g_bi_s, g_le_s, p0, g_bi_s, g_le_s]
  rcases hw with rfl | rfl | rfl | rfl <;> simp (decide := true) only [if_false, if_true]
theorem reck_neg (h : JV L n c m) (hn1 : 1 ≤ n) (hk : m 54 (n - 1) = 0) : ∃ c' m', Job_reckon 126 c = some (0, c') ∧ M_order 126 m = some (0, m') ∧ JV L n c' m' ∧ fC vC c c' ∧ fM vM m m' := by
  obtain ⟨h0, h1, h2, h3, h4⟩ := id h
  obtain ⟨va, a0, a1⟩ := (h4 (n - 1) (by omega)).num hk
  have p0 := peek_in h2 h1 0 0 rfl (by omega)
  rw [show n - 1 - 0 = n - 1 by omega] at p0
  obtain ⟨x, p1⟩ := peek_any h2 h1 1 1 rfl (by omega)
  have pC := push_C (c := g_up c 18 1 ((n - 1 : Nat) : Int)) (n := n - 1) up_y (by omega) (-c 19 (n - 1))
  rw [show n - 1 + 1 = n by omega] at pC
  refine ⟨g_up (g_up (g_up c 18 1 ((n - 1 : Nat) : Int)) 19 (n - 1) (-c 19 (n - 1))) 18 1 n, g_up m 52 (n - 1) (-m 52 (n - 1)), ?_, ?_, ⟨h0, h1, up_y, by rw [g_up_ne (by decide)]; exact h3, fun i hi => ?_⟩, fC_tr (fC_up rfl) (fC_tr (fC_up rfl) (fC_up rfl)), fM_up rfl⟩
  · unfold Job_reckon
    rw [p0, g_bi_s, p1, g_bi_s, res0 h2 h1 (by decide), g_bi_s, if_neg (by decide), needsC c (by decide), g_bi_s, show nd 126 = 1 by decide, drop_is h2 h1 1 1 rfl hn1, g_bi_s]
    unfold Job_reckon_43
    rw [if_neg (by decide), if_neg (by decide), if_neg (by decide), if_pos (by decide), pC, g_bi_s]
  · unfold M_order
    simp (decide := true) only [if_false, if_true]
    rw [h3, show (n : Int) - 1 = ((n - 1 : Nat) : Int) by omega, w_nat (by omega), if_pos (by omega), if_pos (by omega), g_le_s, Int.toNat_natCast]
  · by_cases e : i = n - 1
    · refine Or.inl ?_
      subst e
      simp (disch := decide) only [g_up_ne, up_y]
      exact ⟨hk, by omega, by omega, by omega⟩
    · refine VR_congr ?_ ?_ ?_ ?_ (h4 i (by omega))
      · rw [g_up_ne (by decide), up_n (by omega), g_up_ne (by decide)]
      · rw [up_n (by omega)]
      · rw [g_up_ne (by decide)]
      · rw [g_up_ne (by decide)]
theorem reck_D (h : JV L n c m) (hn1 : 1 ≤ n) (hn : n < 32) : ∃ c' m', Job_reckon 68 c = some (0, c') ∧ M_order 68 m = some (0, m') ∧ JV L (n + 1) c' m' ∧ fC vC c c' ∧ fM vM m m' := by
  obtain ⟨h0, h1, h2, h3, h4⟩ := id h
  have v := h4 (n - 1) (by omega)
  have p0 := peek_in h2 h1 0 0 rfl (by omega)
  rw [show n - 1 - 0 = n - 1 by omega] at p0
  obtain ⟨x, p1⟩ := peek_any h2 h1 1 1 rfl (by omega)
  refine ⟨_, _, ?_, ?_, JV_push h hn (x := c 19 (n - 1)) (y := m 52 (n - 1)) (p := m 54 (n - 1)) ?_, fC_push, fM_push⟩
  · unfold Job_reckon
    rw [p0, g_bi_s, p1, g_bi_s, res0 h2 h1 (by decide), g_bi_s, if_pos (by decide)]
    unfold Job_reckon_43
    rw [if_pos (by decide), push_C h2 hn, g_bi_s]
  · unfold M_order
    simp (decide := true) only [if_false, if_true]
    rw [h3, show (n : Int) - 1 = ((n - 1 : Nat) : Int) by omega, w_nat (by omega), if_pos (by omega), if_pos (by omega), Int.toNat_natCast, push_M h3 (by omega) _ (v.w h0).2.2.2, g_bi_s]
  · rcases v with ⟨a, b⟩ | ⟨a, j, b1, b2, b3⟩
    · exact Or.inl ⟨a, b⟩
    · exact Or.inr ⟨a, j, b1, b2, b3⟩
theorem reck_O (h : JV L n c m) (hn1 : 1 ≤ n) : ∃ c' m', Job_reckon 79 c = some (0, c') ∧ M_order 79 m = some (0, m') ∧ JV L (n - 1) c' m' ∧ fC vC c c' ∧ fM vM m m' := by
  obtain ⟨h0, h1, h2, h3, h4⟩ := id h
  obtain ⟨y, p0⟩ := peek_any h2 h1 0 0 rfl (by omega)
  obtain ⟨x, p1⟩ := peek_any h2 h1 1 1 rfl (by omega)
  refine ⟨_, _, ?_, ?_, JV_drop h (k := 1) hn1, fC_up rfl, fM_up rfl⟩
  · unfold Job_reckon
    rw [p0, g_bi_s, p1, g_bi_s, res0 h2 h1 (by decide), g_bi_s, if_neg (by decide), needsC c (by decide), g_bi_s, show nd 79 = 1 by decide, drop_is h2 h1 1 1 rfl hn1, g_bi_s]
    unfold Job_reckon_43
    rw [if_neg (by decide), if_pos (by decide)]
  · unfold M_order
    simp (decide := true) only [if_false, if_true]
    rw [h3, g_le_s, show (n : Int) - 1 = ((n - 1 : Nat) : Int) by omega]
theorem reck_X (h : JV L n c m) (hn2 : 2 ≤ n) : ∃ c' m', Job_reckon 88 c = some (0, c') ∧ M_order 88 m = some (0, m') ∧ JV L n c' m' ∧ fC vC c c' ∧ fM vM m m' := by
  obtain ⟨h0, h1, h2, h3, h4⟩ := id h
  have v1 := h4 (n - 1) (by omega)
  have v2 := h4 (n - 2) (by omega)
  have p0 := peek_in h2 h1 0 0 rfl (by omega)
  have p1 := peek_in h2 h1 1 1 rfl (by omega)
  rw [show n - 1 - 0 = n - 1 by omega] at p0
  rw [show n - 1 - 1 = n - 2 by omega] at p1
  have q1 := push_C (c := g_up c 18 1 ((n - 2 : Nat) : Int)) (n := n - 2) up_y (by omega) (c 19 (n - 1))
  rw [show n - 2 + 1 = n - 1 by omega] at q1
  have q2 := push_C (c := g_up (g_up (g_up c 18 1 ((n - 2 : Nat) : Int)) 19 (n - 2) (c 19 (n - 1))) 18 1 ((n - 1 : Nat) : Int)) (n := n - 1) up_y (by omega) (c 19 (n - 2))
  rw [show n - 1 + 1 = n by omega] at q2
  refine ⟨_, g_up (g_up (g_up (g_up m 52 (n - 1) (m 52 (n - 2))) 54 (n - 1) (m 54 (n - 2))) 52 (n - 2) (m 52 (n - 1))) 54 (n - 2) (m 54 (n - 1)), ?_, ?_, (?_ : JV L n (g_up (g_up (g_up (g_up (g_up c 18 1 ((n - 2 : Nat) : Int)) 19 (n - 2) (c 19 (n - 1))) 18 1 ((n - 1 : Nat) : Int)) 19 (n - 1) (c 19 (n - 2))) 18 1 n) _), fC_tr (fC_up rfl) (fC_tr (fC_up rfl) (fC_tr (fC_up rfl) (fC_tr (fC_up rfl) (fC_up rfl)))), fM_tr (fM_up rfl) (fM_tr (fM_up rfl) (fM_tr (fM_up rfl) (fM_up rfl)))⟩
  · unfold Job_reckon
    rw [p0, g_bi_s, p1, g_bi_s, res0 h2 h1 (by decide), g_bi_s, if_neg (by decide), needsC c (by decide), g_bi_s, show nd 88 = 2 by decide, drop_is h2 h1 2 2 rfl hn2, g_bi_s]
    unfold Job_reckon_43
    rw [if_neg (by decide), if_neg (by decide), if_pos (by decide), q1, g_bi_s, q2, g_bi_s]
  · unfold M_order
    simp (decide := true) only [if_false, if_true]
    unfold M_swap
    have e1 : w32 ((n : Int) - 1) = ((n - 1 : Nat) : Int) := by rw [show (n : Int) - 1 = ((n - 1 : Nat) : Int) by omega, w_nat (by omega)]
    have e2 : w32 ((n : Int) - 2) = ((n - 2 : Nat) : Int) := by rw [show (n : Int) - 2 = ((n - 2 : Nat) : Int) by omega, w_nat (by omega)]
    have i1 : (0 : Int) ≤ ((n - 1 : Nat) : Int) ∧ ((n - 1 : Nat) : Int) < 33 := by omega
    have i2 : (0 : Int) ≤ ((n - 2 : Nat) : Int) ∧ ((n - 2 : Nat) : Int) < 33 := by omega
    have x1 : i_nar .boolean (m 54 (n - 1)) = m 54 (n - 1) := i_nar_01 (v1.w h0).2.2.2
    have x2 : i_nar .boolean (m 54 (n - 2)) = m 54 (n - 2) := i_nar_01 (v2.w h0).2.2.2
    simp (disch := decide) only [g_le_s, g_up_ne, h3, e1, e2, if_pos i1, if_pos i2, Int.toNat_natCast, g_bi_s, x1, x2]
  · refine ⟨h0, h1, up_y, ?_, fun i hi => ?_⟩
    · simp (disch := decide) only [g_up_ne]
      exact h3
    · by_cases e : i = n - 1
      · subst e
        have u := v2
        unfold VR at u ⊢
        simp (disch := first | decide | omega) only [g_up_ne, up_y, up_n]
        exact u
      · by_cases e2 : i = n - 2
        · subst e2
          have u := v1
          unfold VR at u ⊢
          simp (disch := first | decide | omega) only [g_up_ne, up_y, up_n]
          exact u
        · refine VR_congr ?_ ?_ ?_ ?_ (h4 i (by omega))
          · rw [g_up_ne (by decide), up_n (by omega), g_up_ne (by decide), up_n (by omega), g_up_ne (by decide)]
          · rw [g_up_ne (by decide), up_n (by omega), g_up_ne (by decide), up_n (by omega)]
          · rw [up_n (by omega), g_up_ne (by decide), up_n (by omega), g_up_ne (by decide)]
          · rw [g_up_ne (by decide), g_up_ne (by decide), g_up_ne (by decide), g_up_ne (by decide)]
end ST

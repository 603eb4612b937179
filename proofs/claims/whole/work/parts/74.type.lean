/-! typing -/
theorem i_and255 (z : Int) : i_and z 255 = ((lu z % 256 : Nat) : Int) := by
  unfold i_and
  show (BitVec.ofInt 32 z &&& 255#32).toInt = _
  have e : (BitVec.ofInt 32 z &&& 255#32).toNat = lu z % 256 := by
    rw [BitVec.toNat_and, show (255#32).toNat = 2 ^ 8 - 1 from rfl, Nat.and_two_pow_sub_one_eq_mod, BitVec.toNat_ofInt]
    have h1 := lu_val z
    show (z % 4294967296).toNat % 256 = _
    omega
  rw [BitVec.toInt_eq_toNat_of_lt (by rw [e]; show 2 * (lu z % 256) < 4294967296; omega), e]
theorem l_and255 (z : Int) : l_and z 255 = ((lu z % 256 : Nat) : Int) := by
  unfold l_and
  show (BitVec.ofInt 64 z &&& 255#64).toInt = _
  have e : (BitVec.ofInt 64 z &&& 255#64).toNat = lu z % 256 := by
    rw [BitVec.toNat_and, show (255#64).toNat = 2 ^ 8 - 1 from rfl, Nat.and_two_pow_sub_one_eq_mod]
    rfl
  rw [BitVec.toInt_eq_toNat_of_lt (by rw [e]; show 2 * (lu z % 256) < 18446744073709551616; omega), e]
def byt (a : Int) (k : Nat) : Int := ((lu a / 2 ^ (8 * k) % 256 : Nat) : Int)
theorem byt_lo (a : Int) (k : Nat) : 0 ≤ byt a k ∧ byt a k ≤ 255 := by unfold byt; omega
theorem byt_w (a : Int) (k : Nat) : w32 (byt a k) = byt a k := w32_id (by have := byt_lo a k; omega) (by have := byt_lo a k; omega)
theorem byt_u (a : Int) {k : Nat} (hk : k < 8) : i_and (l_ushr a (8 * (k : Int))) 255 = byt a k := by
  rw [i_and255, show (8 * (k : Int)) = ((8 * k : Nat) : Int) by omega, lu_ushr a (by omega)]
  rfl
theorem byt_s (a : Int) {k : Nat} (hk : k < 8) : l_and (l_shr a (8 * (k : Int))) 255 = byt a k := by
  rw [l_and255, show (8 * (k : Int)) = ((8 * k : Nat) : Int) by omega]
  unfold byt
  congr 1
  rw [← lu_ushr a (n := 8 * k) (by omega)]
  refine Nat.eq_of_testBit_eq fun i => ?_
  rw [show (256 : Nat) = 2 ^ 8 from rfl, Nat.testBit_mod_two_pow, Nat.testBit_mod_two_pow]
  by_cases hi : i < 8
  · congr 1
    show (lB (l_shr a ((8 * k : Nat) : Int))).getLsbD i = (lB (l_ushr a ((8 * k : Nat) : Int))).getLsbD i
    rw [lB_shr a (by omega), lB_ushr a (by omega), BitVec.getLsbD_sshiftRight, BitVec.getLsbD_ushiftRight]
    simp [show 8 * k + i < 64 by omega, show i < 64 by omega]
  · simp [hi]
def JT (c m : gS) : Prop := c 1 3 = m 49 3 ∧ 0 ≤ m 49 3 ∧ m 49 3 ≤ 300 ∧ ∀ i : Nat, (i : Int) < m 49 3 → c 2 i = m 50 i ∧ 32 ≤ m 50 i ∧ m 50 i ≤ 126
def tC (q : Nat) : Bool := decide (q = 1) || decide (q = 2)
def tM (q k : Nat) : Bool := (decide (q = 49) && (decide (k = 0) || decide (k = 3))) || decide (q = 50)
theorem JT_congr {c c' m m' : gS} (h1 : c' 1 = c 1) (h2 : c' 2 = c 2) (h3 : m' 49 3 = m 49 3) (h4 : m' 50 = m 50) (h : JT c m) : JT c' m' := by
  unfold JT
  rw [h1, h2, h3, h4]
  exact h
theorem l_cmp_s {x y : Int} (hx : w64 x = x) (hy : w64 y = y) : w32 (l_cmp x y) = if y < x then 1 else if x = y then 0 else -1 := by
  unfold l_cmp
  rw [hx, hy]
  split
  · rfl
  · split <;> rfl
theorem plain_both {K : Int → Int → gS → gA} {a : Int} {n : Nat} (hn : n ≤ 8) (c m : gS) : ∀ (d k N : Nat), k + d = n → (Text_isPlain_2L (N + d + 1) a n k c = some (1, c) ∧ M_type_33L K (N + d + 1) a n k m = K a n m ∧ ∀ j, k ≤ j → j < n → 32 ≤ byt a j ∧ byt a j ≤ 126) ∨ (Text_isPlain_2L (N + d + 1) a n k c = some (0, c) ∧ M_type_33L K (N + d + 1) a n k m = some (0, m)) := by
  intro d
  induction d with
  | zero =>
    intro k N hk
    refine Or.inl ⟨?_, ?_, fun j h1 h2 => by omega⟩
    · show Text_isPlain_2 _ a n k c = _
      unfold Text_isPlain_2
      rw [w_nat (by omega), w_nat (by omega), if_pos (by omega)]
    · show M_type_33 _ K a n k m = _
      unfold M_type_33
      rw [w_nat (by omega), w_nat (by omega), if_pos (by omega)]
  | succ d ih =>
    intro k N hk
    have hb := byt_lo a k
    have eC : Text_isPlain_2L (N + (d + 1) + 1) a n k c = if byt a k < 32 then some (0, c) else if byt a k ≤ 126 then Text_isPlain_2L (N + d + 1) a n ((k + 1 : Nat) : Int) c else some (0, c) := by
      show Text_isPlain_2 (Text_isPlain_2L (N + d + 1)) a n k c = _
      unfold Text_isPlain_2 Text_byteOf
      rw [w_nat (by omega), w_nat (by omega), if_neg (by omega), g_bi_s, byt_u a (by omega), byt_w]
      rfl
    have eM : M_type_33L K (N + (d + 1) + 1) a n k m = if byt a k < 32 then some (0, m) else if byt a k ≤ 126 then M_type_33L K (N + d + 1) a n ((k + 1 : Nat) : Int) m else some (0, m) := by
      show M_type_33 (M_type_33L K (N + d + 1)) K a n k m = _
      unfold M_type_33
      rw [w_nat (by omega), w_nat (by omega), if_neg (by omega), g_le_s, byt_s a (by omega), l_cmp_s (w64_id (by omega) (by omega)) (by decide), l_cmp_s (w64_id (by omega) (by omega)) (by decide)]
      by_cases h1 : byt a k < 32
      · rw [if_pos h1, if_pos (by rw [if_neg (by omega), if_neg (by omega)]; decide)]
      · rw [if_neg h1]
        by_cases h2 : byt a k ≤ 126
        · rw [if_pos h2, if_neg (by split <;> (try split) <;> omega), if_pos (by rw [if_neg (by omega)]; split <;> omega)]
          rfl
        · rw [if_neg h2, if_neg (by split <;> (try split) <;> omega), if_neg (by rw [if_pos (by omega)]; omega)]
    rw [eC, eM]
    by_cases h1 : byt a k < 32
    · rw [if_pos h1, if_pos h1]
      exact Or.inr ⟨rfl, rfl⟩
    · rw [if_neg h1, if_neg h1]
      by_cases h2 : byt a k ≤ 126
      · rw [if_pos h2, if_pos h2]
        rcases ih (k + 1) N (by omega) with ⟨i1, i2, i3⟩ | i
        · refine Or.inl ⟨i1, i2, fun j j1 j2 => ?_⟩
          rcases (show j = k ∨ k + 1 ≤ j by omega) with rfl | j3
          · omega
          · exact i3 j j3 j2
        · exact Or.inr i
      · rw [if_neg h2, if_neg h2]
        exact Or.inr ⟨rfl, rfl⟩
theorem append_both {a : Int} {n : Nat} (hn : n ≤ 8) (hp : ∀ j, j < n → 32 ≤ byt a j ∧ byt a j ≤ 126) : ∀ (d N : Nat) (c m : gS), d ≤ n → JT c m → m 49 3 + d ≤ 300 → ∃ c' m' : gS, Text_append_38L (N + d + 1) a ((d : Int) - 1) c = some (1, c') ∧ M_type_83L (N + d + 1) a ((d : Int) - 1) m = some (1, m') ∧ JT c' m' ∧ fC tC c c' ∧ fM tM m m' := by
  intro d
  induction d with
  | zero =>
    intro N c m hd h hl
    refine ⟨c, m, ?_, ?_, h, fC_rf _ _, fM_rf _ _⟩
    · show Text_append_38 _ a _ c = _
      unfold Text_append_38
      rw [if_pos (by decide)]
    · show M_type_83 _ a _ m = _
      unfold M_type_83
      rw [if_pos (by decide)]
  | succ d ih =>
    intro N c m hd h hl
    obtain ⟨t1, t2, t3, t4⟩ := id h
    have hw : w32 (m 49 3) = m 49 3 := w32_id (by omega) (by omega)
    have hi : 0 ≤ m 49 3 ∧ m 49 3 < 300 := by omega
    have h' : JT (g_up (g_up c 2 (m 49 3).toNat (byt a d)) 1 3 (m 49 3 + 1)) (g_up (g_up m 50 (m 49 3).toNat (byt a d)) 49 3 (m 49 3 + 1)) := by
      unfold JT
      simp (disch := decide) only [up_y, g_up_ne]
      refine ⟨trivial, by omega, by omega, fun i hi => ?_⟩
      by_cases e : i = (m 49 3).toNat
      · rw [e, up_y, up_y]
        exact ⟨rfl, hp d (by omega)⟩
      · rw [up_n (by omega), up_n (by omega)]
        exact t4 i (by omega)
    obtain ⟨c', m', k1, k2, k3, k4, k5⟩ := ih N _ _ (by omega) h' (by rw [up_y]; omega)
    refine ⟨c', m', ?_, ?_, k3, fC_tr (fC_tr (fC_up rfl) (fC_up rfl)) k4, fM_tr (fM_tr (fM_up rfl) (fM_up rfl)) k5⟩
    · show Text_append_38 (Text_append_38L (N + d + 1)) a _ c = _
      unfold Text_append_38 Text_byteOf
      rw [show ((d + 1 : Nat) : Int) - 1 = (d : Int) by omega, w_nat (by omega), if_neg (by omega), g_bi_s, byt_u a (by omega), t1, hw, if_pos hi, g_le_s, g_le_s, g_up_ne (by decide), t1]
      exact k1
    · show M_type_83 (M_type_83L (N + d + 1)) a _ m = _
      unfold M_type_83
      rw [show ((d + 1 : Nat) : Int) - 1 = (d : Int) by omega, w_nat (by omega), if_neg (by omega), hw, if_pos hi, byt_s a (by omega), g_le_s, g_le_s, g_up_ne (by decide)]
      exact k2
theorem JT_code {c m : gS} {v : Int} (h : JT c m) : JT c (g_up m 49 0 v) := JT_congr rfl rfl (up_n (by decide)) (g_up_ne (by decide)) h
theorem fM_codeT {m : gS} {v : Int} : fM tM m (g_up m 49 0 v) := fM_up rfl
theorem op_type {c m : gS} {a b : Int} (hb : w32 b = b) (h : JT c m) : ∃ (z : Int) (c' m' : gS), B_type a b c = some (z, c') ∧ M_type a b m = some (z, m') ∧ JT c' m' ∧ fC tC c c' ∧ fM tM m m' := by
  have no : ∃ (z : Int) (c' m' : gS), (g_bi (some ((0 : Int), c)) fun r1 s2 => if w32 r1 = 0 ∨ w32 r1 = 1 then some (r1, s2) else none) = some (z, c') ∧ some ((0 : Int), g_up m 49 0 0) = some (z, m') ∧ JT c' m' ∧ fC tC c c' ∧ fM tM m m' := by
    rw [g_bi_s, if_pos (by decide)]
    exact ⟨_, _, _, rfl, rfl, JT_code h, fC_rf _ _, fM_codeT⟩
  have h' := JT_code (v := 0) h
  have e3 : c 1 3 = g_up m 49 0 0 49 3 := h'.1
  have g0 := h'.2.1
  have g1 := h'.2.2.1
  unfold B_type M_type Text_append
  rw [g_le_s, hb]
  by_cases h1 : b < 1
  · rw [if_pos h1, if_pos h1]
    exact no
  rw [if_neg h1, if_neg h1]
  by_cases h2 : 8 < b
  · rw [if_pos h2, if_pos h2]
    exact no
  rw [if_neg h2, if_neg h2, e3, w32_id (z := g_up m 49 0 0 49 3 + b) (by omega) (by omega)]
  by_cases h3 : g_up m 49 0 0 49 3 + b ≤ 300
  · rw [if_neg (by omega), if_pos h3]
    obtain ⟨n, rfl⟩ : ∃ n : Nat, b = n := ⟨b.toNat, by omega⟩
    have hg : gFu = (1000000000000 - n - 1) + n + 1 := by show 1000000000000 = _; omega
    rcases plain_both (K := M_type_78) (a := a) (n := n) (by omega) c (g_up m 49 0 0) n 0 (1000000000000 - n - 1) (by omega) with ⟨k1, k2, k3⟩ | ⟨k1, k2⟩
    · obtain ⟨c', m', r1, r2, r3, r4, r5⟩ := append_both (a := a) (n := n) (by omega) (fun j hj => k3 j (by omega) hj) n (1000000000000 - n - 1) c (g_up m 49 0 0) (by omega) h' h3
      unfold Text_isPlain
      rw [← hg] at k1 k2 r1 r2
      rw [show ((0 : Nat) : Int) = 0 from rfl] at k1 k2
      rw [k1, k2, g_bi_s, if_neg (by decide), g_le_s, r1, g_bi_s, if_pos (by decide)]
      unfold M_type_78
      rw [g_le_s, r2]
      exact ⟨_, _, _, rfl, rfl, r3, r4, fM_tr fM_codeT r5⟩
    · unfold Text_isPlain
      rw [← hg] at k1 k2
      rw [show ((0 : Nat) : Int) = 0 from rfl] at k1 k2
      rw [k1, k2, g_bi_s, if_pos (by decide)]
      exact no
  · rw [if_pos (by omega), if_neg h3]
    exact no

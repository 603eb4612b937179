/-! the procedures under way -/
theorem up_up {s : gS} {q k : Nat} {x y : Int} : g_up (g_up s q k x) q k y = g_up s q k y := by
  funext i j
  rw [g_up_at, g_up_at, g_up_at]
  by_cases h : i = q ∧ j = k
  · rw [if_pos h, if_pos h]
  · rw [if_neg h, if_neg h, if_neg h]
theorem up_id {s : gS} {q k : Nat} {x : Int} (h : s q k = x) : g_up s q k x = s := by
  funext i j
  rw [g_up_at]
  by_cases e : i = q ∧ j = k
  · rw [if_pos e, e.1, e.2, h]
  · rw [if_neg e]
theorem up_mid {s : gS} {a b k k' : Nat} {x y z : Int} : g_up (g_up (g_up s a k x) b k' y) a k z = g_up (g_up s b k' y) a k z := by
  funext i j
  rw [g_up_at, g_up_at, g_up_at, g_up_at, g_up_at]
  by_cases r : i = a ∧ j = k
  · simp only [if_pos r]
  · simp only [if_neg r]
def skp (f : Nat → Int) : Nat → Nat → Nat
  | 0, a => a
  | d + 1, a => if f a = 32 then skp f d (a + 1) else a
theorem skp_lo (f : Nat → Int) : ∀ d a, a ≤ skp f d a ∧ skp f d a ≤ a + d := by
  intro d
  induction d with
  | zero => intro a; simp only [skp]; omega
  | succ d ih =>
    intro a
    have := ih (a + 1)
    simp only [skp]
    split <;> omega
theorem skp_at (f : Nat → Int) : ∀ d a, skp f d a < a + d → f (skp f d a) ≠ 32 := by
  intro d
  induction d with
  | zero => intro a h; simp only [skp] at h; omega
  | succ d ih =>
    intro a h
    simp only [skp] at h ⊢
    by_cases e : f a = 32
    · rw [if_pos e] at h ⊢
      exact ih (a + 1) (by omega)
    · rw [if_neg e]
      exact e
theorem skp_word (f : Nat → Int) : ∀ d a, (∃ j, a ≤ j ∧ j < a + d ∧ f j ≠ 32) → skp f d a < a + d := by
  intro d
  induction d with
  | zero => rintro a ⟨j, h1, h2, h3⟩; omega
  | succ d ih =>
    rintro a ⟨j, h1, h2, h3⟩
    simp only [skp]
    by_cases e : f a = 32
    · rw [if_pos e]
      have := ih (a + 1) ⟨j, by
        rcases (show j = a ∨ a + 1 ≤ j by omega) with rfl | q
        · exact absurd e h3
        · exact q, by omega, h3⟩
      omega
    · rw [if_neg e]
      omega
theorem skp_dep (f : Nat → Int) : ∀ d a, dep f (skp f d a) = dep f a := by
  intro d
  induction d with
  | zero => intro a; rfl
  | succ d ih =>
    intro a
    simp only [skp]
    by_cases e : f a = 32
    · rw [if_pos e, ih (a + 1), dep_s (by omega) (by omega)]
    · rw [if_neg e]
theorem FR.skp {f : Nat → Int} {L z a b : Nat} (h : FR f L z a b) : FR f L z (skp f (b - a) a) b := by
  have := skp_lo f (b - a) a
  have := h.2.1
  exact h.to (by omega) (by omega) (skp_dep f (b - a) a)
theorem skp_stay {f : Nat → Int} {d a : Nat} (h : f a ≠ 32) : skp f d a = a := by
  cases d with
  | zero => rfl
  | succ d => simp only [skp]; rw [if_neg h]
section CA
variable {L : Nat} {c m : gS}
theorem skC_loop (h : JS L c m) {b : Nat} (hb : b ≤ L) : ∀ (d a N : Nat), b - a = d → a ≤ 1000 → Text_skipBlanks_2L (N + d + 1) b a c = some ((skp (m 51) d a : Int), c) := by
  have hL := h.2.2.1.le
  intro d
  induction d with
  | zero =>
    intro a N hd ha
    show Text_skipBlanks_2 _ _ _ _ = _
    unfold Text_skipBlanks_2
    rw [w_nat (by omega), w_nat (by omega), if_pos (by omega)]
    rfl
  | succ d ih =>
    intro a N hd ha
    show Text_skipBlanks_2 (Text_skipBlanks_2L (N + d + 1)) _ _ _ = _
    unfold Text_skipBlanks_2
    rw [w_nat (by omega), w_nat (by omega), if_neg (by omega), sgn h (by omega), g_bi_s, h.vw (by omega)]
    simp only [skp]
    by_cases e : m 51 a = 32
    · rw [if_pos e, if_pos e]
      exact ih (a + 1) N (by omega) (by omega)
    · rw [if_neg e, if_neg e]
theorem skC (h : JS L c m) {a b : Nat} (hb : b ≤ L) (ha : a ≤ 1000) : Text_skipBlanks a b c = some ((skp (m 51) (b - a) a : Int), c) := by
  have hL := h.2.2.1.le
  have := skC_loop h hb (b - a) a (1000000000000 - (b - a) - 1) rfl ha
  rw [show 1000000000000 - (b - a) - 1 + (b - a) + 1 = gFu by show _ = 1000000000000; omega] at this
  exact this
theorem skM_loop {f : Nat → Int} {b k : Nat} {K : Int → gS → gA} (hL : L ≤ 300) (hf : ∀ j, j < L → w32 (f j) = f j) (hb : b ≤ L) (hk : k < 22) : ∀ (d a N : Nat) (m : gS), b - a = d → a ≤ 1000 → m 55 k = a → m 56 k = b → m 51 = f → M_next_14L K (N + d + 1) k m = K k (g_up m 55 k (skp f d a : Int)) := by
  intro d
  induction d with
  | zero =>
    intro a N m hd ha h5 h6 h1
    show M_next_14 _ K _ _ = _
    unfold M_next_14
    rw [w_nat (by omega), Int.toNat_natCast, h5, h6, w_nat (by omega), w_nat (by omega), if_pos (by omega), if_pos (by omega), if_pos (by omega), up_id (by rw [h5]; rfl)]
  | succ d ih =>
    intro a N m hd ha h5 h6 h1
    show M_next_14 (M_next_14L K (N + d + 1)) K _ _ = _
    unfold M_next_14
    rw [w_nat (by omega), Int.toNat_natCast, h5, h6, w_nat (by omega), w_nat (by omega), if_pos (by omega), if_pos (by omega), if_neg (by omega), if_pos (by omega), if_pos (by omega), Int.toNat_natCast, h1, hf a (by omega)]
    simp only [skp]
    by_cases e : f a = 32
    · rw [if_pos e, if_pos (by omega), if_pos (by omega), g_le_s, if_pos e, ih (a + 1) N _ (by omega) (by omega) (by rw [up_y]; rfl) (by rw [g_up_ne (by decide)]; exact h6) (by rw [g_up_ne (by decide)]; exact h1), up_up]
    · rw [if_neg e, if_neg e, up_id h5]
theorem nx_step {f : Nat → Int} {a b k : Nat} {K : gS → gA} (hL : L ≤ 300) (hf : ∀ j, j < L → w32 (f j) = f j) (hb : b ≤ L) (ha : a ≤ 1000) (hk : k < 22) (h7 : m 49 17 = (k : Int) + 1) (h5 : m 55 k = a) (h6 : m 56 k = b) (h1 : m 51 = f) (h8 : w32 (m 58 k) = m 58 k) : M_next_0 K m = if skp f (b - a) a < b then some ((skp f (b - a) a : Int), g_up m 55 k (skp f (b - a) a : Int)) else if m 58 k ≤ 1 then K (g_up (g_up m 55 k (skp f (b - a) a : Int)) 49 17 k) else K (g_up (g_up m 58 k (m 58 k - 1)) 55 k (m 57 k)) := by
  have e := skM_loop (K := M_next_58 K) hL hf hb hk (b - a) a (1000000000000 - (b - a) - 1) m rfl ha h5 h6 h1
  rw [show 1000000000000 - (b - a) - 1 + (b - a) + 1 = gFu by show _ = 1000000000000; omega] at e
  have hs := skp_lo f (b - a) a
  unfold M_next_0
  rw [h7, w32_id (by omega) (by omega), if_neg (by omega), g_le_s, show (k : Int) + 1 - 1 = k by omega, e]
  have hkb : (0 : Int) ≤ (k : Int) ∧ (k : Int) < 22 := by omega
  unfold M_next_58 M_next_125
  rw [w_nat (by omega), Int.toNat_natCast, up_y, g_up_ne (show 56 ≠ 55 by decide), h6, w_nat (by omega), w_nat (by omega)]
  simp only [if_pos hkb]
  rw [g_up_ne (show 58 ≠ 55 by decide), h8]
  by_cases q : skp f (b - a) a < b
  · rw [if_neg (by omega), if_pos q]
  · rw [if_pos (by omega), if_neg q]
    by_cases q2 : m 58 k ≤ 1
    · rw [if_pos q2, if_pos q2, g_le_s, g_up_ne (show 49 ≠ 55 by decide), h7, show (k : Int) + 1 - 1 = k by omega]
    · rw [if_neg q2, if_neg q2, g_le_s, g_le_s, g_up_ne (show 57 ≠ 58 by decide), g_up_ne (show 57 ≠ 55 by decide), up_mid]
theorem st_step {a b z k : Nat} {K : Int → gS → gA} (h : JS L c m) (hb : b ≤ L) (ha : a ≤ 1000) (hz : z ≤ 1000) (hk : k < 21) (h4 : c 10 4 = k) (h1 : c 11 k = a) (h2 : c 12 k = z) (h3 : c 13 k = b) (h8 : w32 (c 14 k) = c 14 k) : Calls_settle_5 K k c = if skp (m 51) (b - a) a < b then some (0, g_up c 11 k (skp (m 51) (b - a) a : Int)) else if c 14 k ≤ 1 then K ((k : Int) - 1) (g_up (g_up c 11 k (skp (m 51) (b - a) a : Int)) 10 4 ((k : Int) - 1)) else some (0, g_up (g_up c 14 k (c 14 k - 1)) 11 k (skp (m 51) (b - z) z : Int)) := by
  have hL := h.2.2.1.le
  have hs := skp_lo (m 51) (b - a) a
  unfold Calls_settle_5
  rw [w_nat (by omega), if_neg (by omega)]
  simp only [show (0 : Int) ≤ (k : Int) ∧ (k : Int) < 21 by omega, and_self, if_true]
  rw [Int.toNat_natCast, h1, h3, skC h hb ha, g_bi_s, g_le_s, g_up_ne (show 13 ≠ 11 by decide), h3, up_y, w_nat (by omega), w_nat (by omega), g_up_ne (show 14 ≠ 11 by decide), h8]
  by_cases q : skp (m 51) (b - a) a < b
  · rw [if_neg (by omega), if_pos q]
  · rw [if_pos (by omega), if_neg q]
    by_cases q2 : c 14 k ≤ 1
    · rw [if_pos q2, if_pos q2, g_le_s, g_up_ne (show 10 ≠ 11 by decide), h4]
      rfl
    · rw [if_neg q2, if_neg q2, g_le_s, g_up_ne (show 12 ≠ 14 by decide), g_up_ne (show 12 ≠ 11 by decide), g_up_ne (show 13 ≠ 14 by decide), g_up_ne (show 13 ≠ 11 by decide), h2, h3, skC (JS_congr (c' := g_up (g_up c 11 k (skp (m 51) (b - a) a : Int)) 14 k (c 14 k - 1)) (by rw [g_up_ne (by decide), g_up_ne (by decide)]) (by rw [g_up_ne (by decide), g_up_ne (by decide)]) (by rw [g_up_ne (by decide), g_up_ne (by decide)]) rfl rfl h) hb hz, g_bi_s, g_le_s]
      rw [up_mid]
/-- one of them on both sides -/
def CF (L : Nat) (c m : gS) (k : Nat) : Prop := ∃ a z b : Nat, FR (m 51) L z a b ∧ c 11 k = a ∧ m 55 k = a ∧ c 12 k = z ∧ m 57 k = z ∧ c 13 k = b ∧ m 56 k = b ∧ ((c 14 k = 0 ∧ m 58 k = -1) ∨ (c 14 k = m 58 k ∧ 1 ≤ m 58 k ∧ m 58 k ≤ 1000000 ∧ ∃ j : Nat, z ≤ j ∧ j < b ∧ m 51 j ≠ 32))
theorem CF_congr {c' m' : gS} {k : Nat} (h1 : c' 11 k = c 11 k) (h2 : c' 12 k = c 12 k) (h3 : c' 13 k = c 13 k) (h4 : c' 14 k = c 14 k) (h5 : m' 55 k = m 55 k) (h6 : m' 56 k = m 56 k) (h7 : m' 57 k = m 57 k) (h8 : m' 58 k = m 58 k) (h9 : m' 51 = m 51) (h : CF L c m k) : CF L c' m' k := by
  unfold CF
  rw [h1, h2, h3, h4, h5, h6, h7, h8, h9]
  exact h
/-- D of them; at the next word p -/
def CU (L D : Nat) (c m : gS) : Prop := D ≤ 21 ∧ c 10 4 = (D : Int) - 1 ∧ m 49 17 = D ∧ ∀ k, k < D → CF L c m k
def CR (L : Nat) (c m : gS) (p : Int) : Prop := ∃ D : Nat, CU L D c m ∧ ((D = 0 ∧ p = -1) ∨ (0 < D ∧ ∃ q b : Nat, p = q ∧ c 11 (D - 1) = q ∧ m 55 (D - 1) = q ∧ m 56 (D - 1) = b ∧ q < b ∧ b ≤ L ∧ m 51 q ≠ 32))
def nC (q : Nat) : Bool := decide (10 ≤ q) && decide (q ≤ 14)
def nM (q k : Nat) : Bool := (decide (q = 49) && decide (k = 17)) || (decide (55 ≤ q) && decide (q ≤ 58))
def eC (q : Nat) : Bool := decide (q = 10) || decide (q = 11) || decide (q = 14)
def eM (q k : Nat) : Bool := (decide (q = 49) && decide (k = 17)) || decide (q = 55) || decide (q = 58)
theorem nx_both : ∀ (D : Nat) (c m : gS), JS L c m → CU L D c m → ∃ (c' m' : gS) (p : Int), (∀ N, Calls_settle_5L (N + D + 1) ((D : Int) - 1) c = some (0, c')) ∧ (∀ N, M_next_0L (N + D + 2) m = some (p, m')) ∧ CR L c' m' p ∧ fC eC c c' ∧ fM eM m m' := by
  intro D
  induction D with
  | zero =>
    intro c m h u
    refine ⟨c, m, -1, fun N => ?_, fun N => ?_, ⟨0, u, Or.inl ⟨rfl, rfl⟩⟩, fC_rf _ _, fM_rf _ _⟩
    · show Calls_settle_5 _ _ _ = _
      unfold Calls_settle_5
      rw [if_pos (by decide)]
    · show M_next_0 _ _ = _
      unfold M_next_0
      rw [u.2.2.1, if_pos (by decide)]
  | succ D ih =>
    intro c m h u
    obtain ⟨u1, u2, u3, u4⟩ := id u
    have g := h.2.2.1
    have hL := g.le
    obtain ⟨a, z, b, fr, a4, a5, a6, a7, a8, a9, a10⟩ := u4 D (by omega)
    have a3 : b ≤ L := fr.2.2.1
    have a1 : a ≤ b := fr.2.1
    have a2 : z ≤ a := fr.1
    have w8 : w32 (c 14 D) = c 14 D := by
      rcases a10 with ⟨x, -⟩ | ⟨x, y1, y2, -⟩
      · rw [x]; rfl
      · exact w32_id (by omega) (by omega)
    have w9 : w32 (m 58 D) = m 58 D := by
      rcases a10 with ⟨-, x⟩ | ⟨x, y1, y2, -⟩
      · rw [x]; rfl
      · exact w32_id (by omega) (by omega)
    have sC := fun K => st_step (K := K) h a3 (by omega) (show z ≤ 1000 by omega) (k := D) (by omega) (by omega) a4 a6 a8 w8
    have sM := fun K => nx_step (K := K) (k := D) hL (fun j hj => h.vw hj) a3 (show a ≤ 1000 by omega) (by omega) (by omega) a5 a9 rfl w9
    have hsl := skp_lo (m 51) (b - a) a
    by_cases q : skp (m 51) (b - a) a < b
    · refine ⟨g_up c 11 D (skp (m 51) (b - a) a : Int), g_up m 55 D (skp (m 51) (b - a) a : Int), (skp (m 51) (b - a) a : Int), fun N => ?_, fun N => ?_, ⟨D + 1, ⟨u1, by rw [g_up_ne (by decide)]; exact u2, by rw [g_up_ne (by decide)]; exact u3, fun k hk => ?_⟩, Or.inr ⟨by omega, skp (m 51) (b - a) a, b, rfl, by rw [show D + 1 - 1 = D by omega, up_y], by rw [show D + 1 - 1 = D by omega, up_y], by rw [show D + 1 - 1 = D by omega, g_up_ne (by decide)]; exact a9, q, a3, by rw [g_up_ne (by decide)]; exact skp_at _ _ _ (by omega)⟩⟩, fC_up rfl, fM_up rfl⟩
      · show Calls_settle_5 _ _ _ = _
        rw [show ((D + 1 : Nat) : Int) - 1 = D by omega, sC, if_pos q]
      · show M_next_0 _ _ = _
        rw [sM, if_pos q]
      · rcases (show k = D ∨ k < D by omega) with rfl | k1
        · refine ⟨skp (m 51) (b - a) a, z, b, by rw [g_up_ne (by decide)]; exact fr.skp, up_y, up_y, ?_⟩
          simp (disch := decide) only [g_up_ne]
          exact ⟨a6, a7, a8, a9, a10⟩
        · refine CF_congr (up_n (by omega)) ?_ ?_ ?_ (up_n (by omega)) ?_ ?_ ?_ ?_ (u4 k (by omega)) <;> rw [g_up_ne (by decide)]
    · by_cases q2 : m 58 D ≤ 1
      · have q3 : c 14 D ≤ 1 := by
          rcases a10 with ⟨x, -⟩ | ⟨x, -⟩ <;> omega
        have u' : CU L D (g_up (g_up c 11 D (skp (m 51) (b - a) a : Int)) 10 4 ((D : Int) - 1)) (g_up (g_up m 55 D (skp (m 51) (b - a) a : Int)) 49 17 D) := by
          refine ⟨by omega, up_y, up_y, fun k hk => ?_⟩
          refine CF_congr ?_ ?_ ?_ ?_ ?_ ?_ ?_ ?_ ?_ (u4 k (by omega))
          · rw [g_up_ne (by decide), up_n (by omega)]
          · rw [g_up_ne (by decide), g_up_ne (by decide)]
          · rw [g_up_ne (by decide), g_up_ne (by decide)]
          · rw [g_up_ne (by decide), g_up_ne (by decide)]
          · rw [g_up_ne (by decide), up_n (by omega)]
          · rw [g_up_ne (by decide), g_up_ne (by decide)]
          · rw [g_up_ne (by decide), g_up_ne (by decide)]
          · rw [g_up_ne (by decide), g_up_ne (by decide)]
          · rw [g_up_ne (by decide), g_up_ne (by decide)]
        have h' : JS L (g_up (g_up c 11 D (skp (m 51) (b - a) a : Int)) 10 4 ((D : Int) - 1)) (g_up (g_up m 55 D (skp (m 51) (b - a) a : Int)) 49 17 D) := by
          refine JS_congr ?_ ?_ ?_ ?_ ?_ h
          · rw [g_up_ne (by decide), g_up_ne (by decide)]
          · rw [g_up_ne (by decide), g_up_ne (by decide)]
          · rw [g_up_ne (by decide), g_up_ne (by decide)]
          · rw [up_n (by decide), g_up_ne (by decide)]
          · rw [g_up_ne (by decide), g_up_ne (by decide)]
        obtain ⟨c', m', p, k1, k2, k3, k4, k5⟩ := ih _ _ h' u'
        refine ⟨c', m', p, fun N => ?_, fun N => ?_, k3, fC_tr (fC_tr (fC_up rfl) (fC_up rfl)) k4, fM_tr (fM_tr (fM_up rfl) (fM_up rfl)) k5⟩
        · show Calls_settle_5 (Calls_settle_5L (N + D + 1)) _ _ = _
          rw [show ((D + 1 : Nat) : Int) - 1 = D by omega, sC, if_neg q, if_pos q3]
          exact k1 N
        · show M_next_0 (M_next_0L (N + D + 2)) _ = _
          rw [sM, if_neg q, if_pos q2]
          exact k2 N
      · rcases a10 with ⟨x, y⟩ | ⟨x, y1, y2, j, j1, j2, j3⟩
        · omega
        have hw : skp (m 51) (b - z) z < b := by
          have := skp_word (m 51) (b - z) z ⟨j, j1, by omega, j3⟩
          omega
        have hsz := skp_lo (m 51) (b - z) z
        have sM' := fun K => nx_step (m := g_up (g_up m 58 D (m 58 D - 1)) 55 D (m 57 D)) (K := K) (k := D) (a := z) hL (fun j hj => h.vw hj) a3 (by omega) (by omega) (by rw [g_up_ne (by decide), g_up_ne (by decide)]; omega) (by rw [up_y]; exact a7) (by rw [g_up_ne (by decide), g_up_ne (by decide)]; exact a9) (by rw [g_up_ne (by decide), g_up_ne (by decide)]) (by rw [g_up_ne (by decide), up_y]; exact w32_id (by omega) (by omega))
        refine ⟨g_up (g_up c 14 D (c 14 D - 1)) 11 D (skp (m 51) (b - z) z : Int), g_up (g_up m 58 D (m 58 D - 1)) 55 D (skp (m 51) (b - z) z : Int), (skp (m 51) (b - z) z : Int), fun N => ?_, fun N => ?_, ⟨D + 1, ⟨u1, by rw [g_up_ne (by decide), g_up_ne (by decide)]; exact u2, by rw [g_up_ne (by decide), g_up_ne (by decide)]; exact u3, fun k hk => ?_⟩, Or.inr ⟨by omega, skp (m 51) (b - z) z, b, rfl, by rw [show D + 1 - 1 = D by omega, up_y], by rw [show D + 1 - 1 = D by omega, up_y], by rw [show D + 1 - 1 = D by omega, g_up_ne (by decide), g_up_ne (by decide)]; exact a9, hw, a3, by rw [g_up_ne (by decide), g_up_ne (by decide)]; exact skp_at _ _ _ (by omega)⟩⟩, fC_tr (fC_up rfl) (fC_up rfl), fM_tr (fM_up rfl) (fM_up rfl)⟩
        · show Calls_settle_5 _ _ _ = _
          rw [show ((D + 1 : Nat) : Int) - 1 = D by omega, sC, if_neg q, if_neg (by omega)]
        · show M_next_0 (M_next_0 (M_next_0L (N + D + 1))) _ = _
          rw [sM, if_neg q, if_neg q2, sM', if_pos hw, up_up]
        · rcases (show k = D ∨ k < D by omega) with rfl | k1
          · refine ⟨skp (m 51) (b - z) z, z, b, by rw [g_up_ne (by decide), g_up_ne (by decide)]; exact fr.back.skp, up_y, up_y, ?_⟩
            simp (disch := decide) only [g_up_ne, up_y]
            exact ⟨a6, a7, a8, a9, Or.inr ⟨by omega, by omega, by omega, j, j1, j2, j3⟩⟩
          · refine CF_congr ?_ ?_ ?_ ?_ ?_ ?_ ?_ ?_ ?_ (u4 k (by omega))
            · rw [up_n (by omega), g_up_ne (by decide)]
            · rw [g_up_ne (by decide), g_up_ne (by decide)]
            · rw [g_up_ne (by decide), g_up_ne (by decide)]
            · rw [g_up_ne (by decide), up_n (by omega)]
            · rw [up_n (by omega), g_up_ne (by decide)]
            · rw [g_up_ne (by decide), g_up_ne (by decide)]
            · rw [g_up_ne (by decide), g_up_ne (by decide)]
            · rw [g_up_ne (by decide), up_n (by omega)]
            · rw [g_up_ne (by decide), g_up_ne (by decide)]
theorem settle_both {D : Nat} (h : JS L c m) (u : CU L D c m) : ∃ (c' m' : gS) (p : Int), Calls_settle c = some (0, c') ∧ (∀ N, M_next_0L (N + 23) m = some (p, m')) ∧ CR L c' m' p ∧ fC eC c c' ∧ fM eM m m' := by
  obtain ⟨c', m', p, k1, k2, k3, k4, k5⟩ := nx_both D c m h u
  have hD := u.1
  refine ⟨c', m', p, ?_, fun N => ?_, k3, k4, k5⟩
  · unfold Calls_settle
    rw [g_le_s, u.2.1]
    have := k1 (1000000000000 - D - 1)
    rw [show 1000000000000 - D - 1 + D + 1 = gFu by show _ = 1000000000000; omega] at this
    exact this
  · have := k2 (N + 21 - D)
    rw [show N + 21 - D + D + 2 = N + 23 by omega] at this
    exact this
/-- where the next word is known, next() changes nothing -/
theorem next_same (h : JS L c m) {p : Int} (r : CR L c m p) : M_next m = some (p, m) := by
  obtain ⟨D, u, e⟩ := r
  unfold M_next
  show M_next_0 _ _ = _
  rcases e with ⟨rfl, rfl⟩ | ⟨hD, q, b, rfl, e1, e2, e3, e4, e5, e6⟩
  · unfold M_next_0
    rw [u.2.2.1, if_pos (by decide)]
  · have hL := h.2.2.1.le
    obtain ⟨a, z, b', fr, a4, a5, a6, a7, a8, a9, a10⟩ := u.2.2.2 (D - 1) (by omega)
    have hDm := u.1
    have w9 : w32 (m 58 (D - 1)) = m 58 (D - 1) := by
      rcases a10 with ⟨-, x⟩ | ⟨x, y1, y2, -⟩
      · rw [x]; rfl
      · exact w32_id (by omega) (by omega)
    rw [nx_step (k := D - 1) hL (fun j hj => h.vw hj) e5 (show q ≤ 1000 by omega) (by omega) (by rw [u.2.2.1]; omega) e2 e3 rfl w9, skp_stay e6, if_pos e4, up_id e2]
/-- a procedure without a word on top of them -/
theorem blank_pop (hL : L ≤ 300) (hf : ∀ j, j < L → w32 (m 51 j) = m 51 j) {D z b : Nat} (hD : D < 22) (hz : z ≤ L) (hb : b ≤ L) (hbl : ¬ skp (m 51) (b - z) z < b) : ∀ (t : Nat) (x : gS), x 51 = m 51 → x 49 17 = (D : Int) + 1 → x 55 D = z → x 57 D = z → x 56 D = b → (x 58 D = -1 ∧ t = 0 ∨ x 58 D = (t : Int) + 1) → t ≤ 1000000 → ∃ x' : gS, (∀ N, M_next_0L (N + t + 1) x = M_next_0L N x') ∧ x' 49 17 = D ∧ (∀ k, k < D → x' 55 k = x 55 k ∧ x' 58 k = x 58 k) ∧ fM eM x x' := by
  intro t
  induction t with
  | zero =>
    intro x h1 h7 h5 h7' h6 h8 ht
    have w9 : w32 (x 58 D) = x 58 D := w32_id (by omega) (by omega)
    refine ⟨g_up (g_up x 55 D (skp (m 51) (b - z) z : Int)) 49 17 D, fun N => ?_, up_y, fun k hk => ⟨by rw [g_up_ne (by decide), up_n (by omega)], by rw [g_up_ne (by decide), g_up_ne (by decide)]⟩, fM_tr (fM_up rfl) (fM_up rfl)⟩
    show M_next_0 _ _ = _
    rw [nx_step (k := D) hL hf hb (show z ≤ 1000 by omega) hD h7 h5 h6 h1 w9, if_neg hbl, if_pos (by omega)]
  | succ t ih =>
    intro x h1 h7 h5 h7' h6 h8 ht
    have h8' : x 58 D = (t : Int) + 2 := by omega
    have w9 : w32 (x 58 D) = x 58 D := w32_id (by omega) (by omega)
    obtain ⟨x', k1, k2, k3, k4⟩ := ih (g_up (g_up x 58 D (x 58 D - 1)) 55 D (x 57 D)) (by rw [g_up_ne (by decide), g_up_ne (by decide)]; exact h1) (by rw [g_up_ne (by decide), g_up_ne (by decide)]; exact h7) (by rw [up_y]; exact h7') (by rw [g_up_ne (by decide), g_up_ne (by decide)]; exact h7') (by rw [g_up_ne (by decide), g_up_ne (by decide)]; exact h6) (Or.inr (by rw [g_up_ne (by decide), up_y]; omega)) (by omega)
    refine ⟨x', fun N => ?_, k2, fun k hk => ?_, fM_tr (fM_tr (fM_up rfl) (fM_up rfl)) k4⟩
    · show M_next_0 (M_next_0L (N + t + 1)) _ = _
      rw [nx_step (k := D) hL hf hb (show z ≤ 1000 by omega) hD h7 h5 h6 h1 w9, if_neg hbl, if_neg (by omega)]
      exact k1 N
    · obtain ⟨r1, r2⟩ := k3 k hk
      rw [r1, r2, up_n (by omega), g_up_ne (by decide), g_up_ne (by decide), up_n (by omega)]
      exact ⟨rfl, rfl⟩
/-! the innermost one that an R has begun -/
theorem inl_loop {D : Nat} (u : CU L D c m) : ∀ (d N : Nat), d ≤ D → (Calls_innermostLoop_5L (N + d + 1) ((d : Int) - 1) c = some (-1, c) ∧ ∀ k, k < d → c 14 k = 0) ∨ ∃ k : Nat, k < d ∧ Calls_innermostLoop_5L (N + d + 1) ((d : Int) - 1) c = some ((k : Int), c) ∧ 0 < c 14 k ∧ ∀ j, k < j → j < d → c 14 j = 0 := by
  have hD := u.1
  intro d
  induction d with
  | zero =>
    intro N hd
    refine Or.inl ⟨?_, fun k hk => by omega⟩
    show Calls_innermostLoop_5 _ _ _ = _
    unfold Calls_innermostLoop_5
    rw [if_pos (by decide)]
  | succ d ih =>
    intro N hd
    obtain ⟨a, z, b, fr, a4, a5, a6, a7, a8, a9, a10⟩ := u.2.2.2 d (by omega)
    have w8 : 0 ≤ c 14 d ∧ w32 (c 14 d) = c 14 d := by
      rcases a10 with ⟨x, -⟩ | ⟨x, y1, y2, -⟩
      · rw [x]; decide
      · exact ⟨by omega, w32_id (by omega) (by omega)⟩
    have e : Calls_innermostLoop_5L (N + (d + 1) + 1) (((d + 1 : Nat) : Int) - 1) c = if c 14 d ≤ 0 then Calls_innermostLoop_5L (N + d + 1) ((d : Int) - 1) c else some ((d : Int), c) := by
      show Calls_innermostLoop_5 (Calls_innermostLoop_5L (N + d + 1)) _ _ = _
      unfold Calls_innermostLoop_5
      rw [show ((d + 1 : Nat) : Int) - 1 = d by omega, w_nat (by omega), if_neg (by omega), if_pos (by omega), Int.toNat_natCast, w8.2]
      rfl
    rw [e]
    by_cases q : c 14 d ≤ 0
    · rw [if_pos q]
      rcases ih N (by omega) with ⟨i1, i2⟩ | ⟨k, i0, i1, i2, i3⟩
      · refine Or.inl ⟨i1, fun k hk => ?_⟩
        rcases (show k = d ∨ k < d by omega) with rfl | q2
        · omega
        · exact i2 k q2
      · refine Or.inr ⟨k, by omega, i1, i2, fun j j1 j2 => ?_⟩
        rcases (show j = d ∨ j < d by omega) with rfl | q2
        · omega
        · exact i3 j j1 q2
    · rw [if_neg q]
      exact Or.inr ⟨d, by omega, rfl, by omega, fun j j1 j2 => by omega⟩
theorem CF.zero {k : Nat} (h : CF L c m k) : c 14 k = 0 ↔ m 58 k = -1 := by
  obtain ⟨a, z, b, fr, a4, a5, a6, a7, a8, a9, a10⟩ := h
  rcases a10 with ⟨x, y⟩ | ⟨x, y1, -⟩ <;> omega
theorem CF.w58 {k : Nat} (h : CF L c m k) : w32 (m 58 k) = m 58 k := by
  obtain ⟨a, z, b, fr, a4, a5, a6, a7, a8, a9, a10⟩ := h
  rcases a10 with ⟨x, y⟩ | ⟨x, y1, y2, -⟩
  · rw [y]; rfl
  · exact w32_id (by omega) (by omega)
theorem rep_loop {D : Nat} (u : CU L D c m) : ∀ (d i N : Nat), i + d = D → ((∀ k, i ≤ k → k < D → m 58 k = -1) → M_isRepeated_2L (N + d + 1) i m = some (0, m)) ∧ ((∃ k, i ≤ k ∧ k < D ∧ m 58 k ≠ -1) → M_isRepeated_2L (N + d + 1) i m = some (1, m)) := by
  have hD := u.1
  have h17 := u.2.2.1
  intro d
  induction d with
  | zero =>
    intro i N hi
    refine ⟨fun _ => ?_, fun ⟨k, k1, k2, _⟩ => by omega⟩
    show M_isRepeated_2 _ _ _ = _
    unfold M_isRepeated_2
    rw [h17, w_nat (by omega), w_nat (by omega), if_pos (by omega)]
  | succ d ih =>
    intro i N hi
    have e : M_isRepeated_2L (N + (d + 1) + 1) i m = if m 58 i = -1 then M_isRepeated_2L (N + d + 1) ((i + 1 : Nat) : Int) m else some (1, m) := by
      show M_isRepeated_2 (M_isRepeated_2L (N + d + 1)) _ _ = _
      unfold M_isRepeated_2
      rw [h17, w_nat (by omega), w_nat (by omega), if_neg (by omega), if_pos (by omega), Int.toNat_natCast, (u.2.2.2 i (by omega)).w58]
      rfl
    rw [e]
    obtain ⟨i1, i2⟩ := ih (i + 1) N (by omega)
    refine ⟨fun hk => ?_, fun ⟨k, k1, k2, k3⟩ => ?_⟩
    · rw [if_pos (hk i (by omega) (by omega))]
      exact i1 fun k k1 k2 => hk k (by omega) k2
    · by_cases q : m 58 i = -1
      · rw [if_pos q]
        refine i2 ⟨k, ?_, k2, k3⟩
        rcases (show k = i ∨ i + 1 ≤ k by omega) with rfl | q2
        · exact absurd q k3
        · exact q2
      · rw [if_neg q]
theorem quit_loop {k0 : Nat} (hk0 : k0 < 21) (h0 : w32 (m 58 k0) = m 58 k0 ∧ m 58 k0 ≠ -1) : ∀ (d N : Nat) (x : gS), k0 + 1 + d ≤ 21 → x 58 = m 58 → x 49 17 = ((k0 + 1 + d : Nat) : Int) → (∀ j, k0 < j → j < k0 + 1 + d → m 58 j = -1) → M_quit_0L (N + d + 1) x = some (0, g_up x 49 17 k0) := by
  intro d
  induction d with
  | zero =>
    intro N x hd h8 h7 hj
    show M_quit_0 _ _ = _
    unfold M_quit_0
    rw [h7, show ((k0 + 1 + 0 : Nat) : Int) - 1 = k0 by omega, w_nat (by omega), if_pos (by omega), Int.toNat_natCast, h8, h0.1, if_neg h0.2, g_le_s]
  | succ d ih =>
    intro N x hd h8 h7 hj
    show M_quit_0 (M_quit_0L (N + d + 1)) _ = _
    unfold M_quit_0
    rw [h7, show ((k0 + 1 + (d + 1) : Nat) : Int) - 1 = ((k0 + 1 + d : Nat) : Int) by omega, w_nat (by omega), if_pos (by omega), Int.toNat_natCast, h8, hj (k0 + 1 + d) (by omega) (by omega), if_pos (by decide), g_le_s, ih N _ (by omega) (by rw [g_up_ne (by decide)]; exact h8) up_y (fun j j1 j2 => hj j j1 (by omega)), up_up]
/-- Q on both sides -/
theorem loop_both {D : Nat} (u : CU L D c m) : (Calls_innermostLoop c = some (-1, c) ∧ M_isRepeated m = some (0, m)) ∨ ∃ k : Nat, k < D ∧ Calls_innermostLoop c = some ((k : Int), c) ∧ M_isRepeated m = some (1, m) ∧ M_quit m = some (0, g_up m 49 17 k) := by
  have hD := u.1
  have r := rep_loop u D 0 (1000000000000 - D - 1) (by omega)
  have i := inl_loop u D (1000000000000 - D - 1) (Nat.le_refl D)
  rw [show 1000000000000 - D - 1 + D + 1 = gFu by show _ = 1000000000000; omega] at r i
  have eC : Calls_innermostLoop c = Calls_innermostLoop_5L gFu ((D : Int) - 1) c := by
    unfold Calls_innermostLoop
    rw [g_le_s, u.2.1]
  rw [eC]
  rcases i with ⟨i1, i2⟩ | ⟨k, k1, k2, k3, k4⟩
  · exact Or.inl ⟨i1, r.1 fun k _ hk => ((u.2.2.2 k hk).zero).1 (i2 k hk)⟩
  · have hk : m 58 k ≠ -1 := fun e => by
      have := ((u.2.2.2 k k1).zero).2 e
      omega
    refine Or.inr ⟨k, k1, k2, r.2 ⟨k, by omega, k1, hk⟩, ?_⟩
    have q := quit_loop (m := m) (k0 := k) (by omega) ⟨(u.2.2.2 k k1).w58, hk⟩ (D - (k + 1)) (1000000000000 - (D - (k + 1)) - 1) m (by omega) rfl (by rw [u.2.2.1]; omega) (fun j j1 j2 => ((u.2.2.2 j (by omega)).zero).1 (k4 j j1 (by omega)))
    rw [show 1000000000000 - (D - (k + 1)) - 1 + (D - (k + 1)) + 1 = gFu by show _ = 1000000000000; omega] at q
    exact q
end CA

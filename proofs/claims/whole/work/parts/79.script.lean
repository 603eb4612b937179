/-! the faults on both sides; the script and its words -/
theorem fault_both {c m : gS} (h : JT c m) : ∃ z : Int, Text_fault c = some (z, c) ∧ M_faultOf m = some (z, m) ∧ -1 ≤ z ∧ z ≤ 300 ∧ (z = -1 → GT (m 50) (m 49 3).toNat) := by
  obtain ⟨t1, t2, t3, t4⟩ := h
  obtain ⟨L, hL⟩ : ∃ L : Nat, m 49 3 = L := ⟨(m 49 3).toNat, by omega⟩
  have hL3 : L ≤ 300 := by omega
  have e1 := ftC (c := c) (f := m 50) (by omega) hL3 (fun i hi => t4 i (by omega)) L 0 (1000000000000 - L - 1) (by omega) ⟨Int.le_refl 0, show (0 : Int) ≤ 8 by decide⟩ (show (0 : Int) ≤ 5 by decide)
  have e2 := ftM (m := m) (f := m 50) hL hL3 (fun i hi => ⟨rfl, (t4 i (by omega)).2⟩) L 0 (1000000000000 - L - 1) (by omega) (by omega) ⟨rfl, Or.inl rfl, ⟨Int.le_refl 0, show (0 : Int) ≤ 8 by decide⟩, show (0 : Int) ≤ 5 by decide⟩
  rw [show 1000000000000 - L - 1 + L + 1 = gFu by show _ = 1000000000000; omega] at e1 e2
  have b := ftd_lo (m 50) L L 0 (by omega)
  refine ⟨ftd (m 50) L L 0, e1, e2, b.1, by omega, fun hz => ?_⟩
  obtain ⟨g1, g2, g3⟩ := ftd_good L 0 (by omega) hz
  rw [show (m 49 3).toNat = L by omega]
  refine ⟨hL3, fun j hj => (t4 j (by omega)).2, fun j hj => g1 j (by omega) hj, ?_, g3⟩
  rcases (show L = 0 ∨ 0 < L by omega) with rfl | q
  · rfl
  · have := (g1 (L - 1) (by omega) (by omega)).2.2.1
    rw [show L - 1 + 1 = L by omega] at this
    omega
/-- the script: L signs, the same on both sides, without fault -/
def JS (L : Nat) (c m : gS) : Prop := c 6 3 = L ∧ m 49 4 = L ∧ GT (m 51) L ∧ (∀ i, i < L → c 7 i = m 51 i) ∧ ∀ j q, brc (m 51) j q → q < L → c 8 j = q
def sC (q : Nat) : Bool := decide (6 ≤ q) && decide (q ≤ 9)
theorem JS_congr {L : Nat} {c c' m m' : gS} (h1 : c' 6 3 = c 6 3) (h2 : c' 7 = c 7) (h3 : c' 8 = c 8) (h4 : m' 49 4 = m 49 4) (h5 : m' 51 = m 51) (h : JS L c m) : JS L c' m' := by
  unfold JS
  rw [h1, h2, h3, h4, h5]
  exact h
theorem text_copy {L : Nat} {f : Nat → Int} {c : gS} (h1 : c 1 3 = L) (hf : ∀ j, j < L → c 2 j = f j) (g : GT f L) : ∃ c', Text_copy c = some (0, c') ∧ c' 6 3 = L ∧ (∀ i, i < L → c' 7 i = f i) ∧ (∀ j q, brc f j q → q < L → c' 8 j = q) ∧ fC sC c c' := by
  have hL := g.le
  unfold Text_copy
  rw [g_le_s, up_y, h1, w_nat (by omega), if_pos (by omega), g_le_s, Int.toNat_natCast]
  obtain ⟨c', k1, k2, k3⟩ := copy_loop g L 0 (1000000000000 - L - 1) (g_cp (g_up c 6 3 L) 2 7 0 0 L) (by omega) (by rw [g_cp_ne (by decide), up_y]) (fun j hj => by
    show (if 7 = 7 ∧ 0 ≤ j ∧ j < 0 + L then g_up c 6 3 L 2 (0 + (j - 0)) else _) = f j
    rw [if_pos ⟨rfl, by omega, by omega⟩, g_up_ne (by decide), ← hf j hj, Nat.zero_add, Nat.sub_zero]) ⟨fun k hk => by simp only [dep] at hk; omega, fun j q _ hq => by omega⟩
  rw [show 1000000000000 - L - 1 + L + 1 = gFu by show _ = 1000000000000; omega] at k1
  refine ⟨c', k1, ?_, fun i hi => ?_, k2.2, fun q hq => ?_⟩
  · rw [k3 6 rfl, g_cp_ne (by decide), up_y]
  · rw [k3 7 rfl]
    show (if 7 = 7 ∧ 0 ≤ i ∧ i < 0 + L then g_up c 6 3 L 2 (0 + (i - 0)) else _) = f i
    rw [if_pos ⟨rfl, by omega, by omega⟩, g_up_ne (by decide), ← hf i hi, Nat.zero_add, Nat.sub_zero]
  · have hq' : ¬ (6 ≤ q ∧ q ≤ 9) := by
      intro x
      unfold sC at hq
      rw [decide_eq_true x.1, decide_eq_true x.2] at hq
      cases hq
    rw [k3 q (by unfold cC; rw [decide_eq_false (by omega), decide_eq_false (by omega)]; rfl), g_cp_ne (by omega), g_up_ne (by omega)]
/-- a stretch of the text from z to b, at a: whole words at one depth of braces -/
def FR (f : Nat → Int) (L z a b : Nat) : Prop := z ≤ a ∧ a ≤ b ∧ b ≤ L ∧ (b = L ∨ f b = 125) ∧ dep f z = dep f b ∧ dep f a = dep f b ∧ ∀ j, z ≤ j → j ≤ b → dep f b ≤ dep f j
theorem FR.no125 {f : Nat → Int} {L z a b : Nat} (h : FR f L z a b) (hb : a < b) : f a ≠ 125 := by
  obtain ⟨h1, h2, h3, h4, h5, h6, h7⟩ := h
  intro e
  have := h7 (a + 1) (by omega) (by omega)
  rw [dep_c e] at this
  omega
theorem FR.to {f : Nat → Int} {L z a b e : Nat} (h : FR f L z a b) (h1 : a ≤ e) (h2 : e ≤ b) (h3 : dep f e = dep f a) : FR f L z e b := by
  obtain ⟨k1, k2, k3, k4, k5, k6, k7⟩ := h
  exact ⟨by omega, h2, k3, k4, k5, by omega, k7⟩
theorem FR.back {f : Nat → Int} {L z a b : Nat} (h : FR f L z a b) : FR f L z z b := by
  obtain ⟨k1, k2, k3, k4, k5, k6, k7⟩ := h
  exact ⟨by omega, by omega, k3, k4, k5, k5, k7⟩
theorem FR_brc {f : Nat → Int} {L j q : Nat} (h : brc f j q) (hq : q < L) : FR f L (j + 1) (j + 1) q := by
  obtain ⟨b1, b2, b3, b4, b5⟩ := h
  have e1 := dep_o b2
  have e2 := dep_c b3
  exact ⟨by omega, by omega, by omega, Or.inr b3, by omega, by omega, fun k k1 k2 => by have := b5 k (by omega) k2; omega⟩
theorem FR_all {f : Nat → Int} {L : Nat} (g : GT f L) : FR f L 0 0 L := by
  have := g.dz
  exact ⟨by omega, by omega, by omega, Or.inl rfl, by rw [this]; rfl, by rw [this]; rfl, fun j _ hj => by rw [this]; exact (g.dp hj).1⟩
section SC
variable {L : Nat} {c m : gS}
theorem sgn (h : JS L c m) {p : Nat} (hp : p < L) : Text_sign p c = some (m 51 p, c) := by
  obtain ⟨h1, h2, h3, h4, h5⟩ := h
  have := h3.le
  unfold Text_sign
  rw [h1, w_nat (by omega), w_nat (by omega), if_neg (by omega), if_pos (by omega), if_pos (by omega), Int.toNat_natCast, h4 p hp]
theorem JS.vw (h : JS L c m) {p : Nat} (hp : p < L) : w32 (m 51 p) = m 51 p := w_v (h.2.2.1.ch p hp).1 (h.2.2.1.ch p hp).2
theorem closeC (h : JS L c m) {j q : Nat} (b : brc (m 51) j q) (hq : q < L) : Text_closing j c = some ((q : Int), c) := by
  obtain ⟨h1, h2, h3, h4, h5⟩ := h
  have := h3.le
  have := b.1
  unfold Text_closing
  rw [h1, w_nat (by omega), w_nat (by omega), if_neg (by omega), if_pos (by omega), if_pos (by omega), Int.toNat_natCast, h5 j q b hq]
theorem closeM_loop (h : JS L c m) {j q : Nat} (b : brc (m 51) j q) (hq : q < L) : ∀ (d k N : Nat), k + d = q + 1 → j ≤ k → M_closing_4L (N + d + 1) j (dep (m 51) k - dep (m 51) j) k m = some ((q : Int), m) := by
  have h3 := h.2.2.1
  have hL := h3.le
  obtain ⟨b1, b2, b3, b4, b5⟩ := b
  intro d
  induction d with
  | zero =>
    intro k N hk hj
    have : k = q + 1 := by omega
    subst this
    show M_closing_4 _ _ _ _ _ = _
    unfold M_closing_4
    rw [b4, w_nat (by omega), w_nat (by omega), if_neg (by rw [Int.sub_self]; decide), if_neg (by omega)]
    congr 2
    omega
  | succ d ih =>
    intro k N hk hj
    have hkd := h3.dp (i := k) (by omega)
    have hjd := h3.dp (i := j) (by omega)
    have e13 : M_closing_13 (M_closing_4L (N + d + 1)) j (dep (m 51) k - dep (m 51) j) k m = some ((q : Int), m) := by
      have nx := ih (k + 1) N (by omega) (by omega)
      unfold M_closing_13 M_closing_45
      have hb : (0 : Int) ≤ (k : Int) ∧ (k : Int) < 300 := by omega
      rw [w_nat (by omega), if_pos hb, if_pos hb, Int.toNat_natCast, h.vw (by omega), show (k : Int) + 1 = ((k + 1 : Nat) : Int) by omega, g_le_s, g_le_s, g_le_s]
      by_cases a1 : m 51 k = 123
      · rw [if_pos a1, show dep (m 51) k - dep (m 51) j + 1 = dep (m 51) (k + 1) - dep (m 51) j by rw [dep_o a1]; omega]
        exact nx
      · rw [if_neg a1]
        by_cases a2 : m 51 k = 125
        · rw [if_pos a2, show dep (m 51) k - dep (m 51) j + -1 = dep (m 51) (k + 1) - dep (m 51) j by rw [dep_c a2]; omega]
          exact nx
        · rw [if_neg a2, show dep (m 51) k - dep (m 51) j + 0 = dep (m 51) (k + 1) - dep (m 51) j by rw [dep_s a1 a2]; omega]
          exact nx
    show M_closing_4 (M_closing_4L (N + d + 1)) _ _ _ _ = _
    unfold M_closing_4
    rw [w32_id (z := dep (m 51) k - dep (m 51) j) (by omega) (by omega), w_nat (by omega), w_nat (by omega)]
    rcases (show k = j ∨ j < k by omega) with rfl | q1
    · rw [if_neg (by omega), if_pos rfl]
      exact e13
    · have := b5 k q1 (by omega)
      rw [if_pos (by omega)]
      exact e13
theorem closeM (h : JS L c m) {j q : Nat} (b : brc (m 51) j q) (hq : q < L) : M_closing j m = some ((q : Int), m) := by
  have hL := h.2.2.1.le
  have b1 := b.1
  have e := closeM_loop h b hq (q + 1 - j) j (1000000000000 - (q + 1 - j) - 1) (by omega) (by omega)
  rw [show 1000000000000 - (q + 1 - j) - 1 + (q + 1 - j) + 1 = gFu by show _ = 1000000000000; omega, Int.sub_self] at e
  exact e
theorem digs_both (h : JS L c m) {p : Nat} (hp : p < L) (hd : isD (m 51 p)) : ∀ (d i N : Nat), i + d = L → p < i → ∃ e : Nat, i ≤ e ∧ e ≤ L ∧ Text_behindDigits_2L (N + d + 1) i c = some ((e : Int), c) ∧ M_wordLong_36L (N + d + 1) p ((i : Int) - p) m = some ((e : Int) - p, m) ∧ ∀ j, i ≤ j → j < e → isD (m 51 j) := by
  have hL := h.2.2.1.le
  have h1 := h.1
  have h2 := h.2.1
  intro d
  induction d with
  | zero =>
    intro i N hi hpi
    have : i = L := by omega
    subst this
    refine ⟨i, by omega, by omega, ?_, ?_, fun j j1 j2 => by omega⟩
    · show Text_behindDigits_2 _ _ _ = _
      unfold Text_behindDigits_2
      rw [h1, if_pos (by omega)]
    · show M_wordLong_36 _ _ _ _ = _
      unfold M_wordLong_36
      rw [w_nat (by omega), if_pos (by omega), Int.toNat_natCast, dgM m (h.vw hp), g_bi_s, w32_01 (dg_01 _)]
      unfold dg
      rw [if_pos hd, if_neg (by decide), h2, show (p : Int) + ((i : Int) - p) = i by omega, if_pos (by omega)]
  | succ d ih =>
    intro i N hi hpi
    have eC : Text_behindDigits_2L (N + (d + 1) + 1) i c = if isD (m 51 i) then Text_behindDigits_2L (N + d + 1) ((i + 1 : Nat) : Int) c else some ((i : Int), c) := by
      show Text_behindDigits_2 (Text_behindDigits_2L (N + d + 1)) _ _ = _
      unfold Text_behindDigits_2
      rw [h1, w_nat (by omega), w_nat (by omega), if_neg (by omega), sgn h (by omega), g_bi_s, dgC c (h.vw (by omega)), g_bi_s, w32_01 (dg_01 _)]
      unfold dg
      by_cases a : isD (m 51 i)
      · rw [if_pos a, if_neg (by decide), if_pos a]
        rfl
      · rw [if_neg a, if_pos rfl, if_neg a]
    have eM : M_wordLong_36L (N + (d + 1) + 1) p ((i : Int) - p) m = if isD (m 51 i) then M_wordLong_36L (N + d + 1) p (((i + 1 : Nat) : Int) - p) m else some ((i : Int) - p, m) := by
      show M_wordLong_36 (M_wordLong_36L (N + d + 1)) _ _ _ = _
      unfold M_wordLong_36
      rw [w_nat (by omega), if_pos (by omega), Int.toNat_natCast, dgM m (h.vw hp), g_bi_s, w32_01 (dg_01 _)]
      unfold dg
      rw [if_pos hd, if_neg (by decide), h2, show (p : Int) + ((i : Int) - p) = i by omega, w_nat (by omega), w_nat (by omega), if_neg (by omega), if_pos (by omega), Int.toNat_natCast, dgM m (h.vw (by omega)), g_bi_s, w32_01 (dg_01 _)]
      unfold dg
      by_cases a : isD (m 51 i)
      · rw [if_pos a, if_neg (by decide), if_pos a, show ((i : Int) - p + 1) = (((i + 1 : Nat) : Int) - p) by omega]
      · rw [if_neg a, if_pos rfl, if_neg a]
    rw [eC, eM]
    by_cases a : isD (m 51 i)
    · rw [if_pos a, if_pos a]
      obtain ⟨e, k1, k2, k3, k4, k5⟩ := ih (i + 1) N (by omega) (by omega)
      refine ⟨e, by omega, k2, k3, k4, fun j j1 j2 => ?_⟩
      rcases (show j = i ∨ i + 1 ≤ j by omega) with rfl | j3
      · exact a
      · exact k5 j j3 j2
    · rw [if_neg a, if_neg a]
      exact ⟨i, by omega, by omega, rfl, rfl, fun j j1 j2 => by omega⟩
theorem digs_end (h : JS L c m) {p : Nat} (hp : p < L) (hd : isD (m 51 p)) : ∃ e : Nat, p < e ∧ e ≤ L ∧ e ≤ p + 5 ∧ Text_behindDigits p c = some ((e : Int), c) ∧ M_wordLong p m = some ((e : Int) - p, m) ∧ ∀ j, p ≤ j → j < e → isD (m 51 j) := by
  have g := h.2.2.1
  have hL := g.le
  obtain ⟨e, k1, k2, k3, k4, k5⟩ := digs_both h hp hd (L - (p + 1)) (p + 1) (1000000000000 - (L - (p + 1)) - 2) (by omega) (by omega)
  have hk : ∀ j, p ≤ j → j < e → isD (m 51 j) := fun j j1 j2 => by
    rcases (show j = p ∨ p + 1 ≤ j by omega) with rfl | j3
    · exact hd
    · exact k5 j j3 j2
  have hr : ∀ i, p + i ≤ e → (i : Int) ≤ drn (m 51) (p + i) := by
    intro i
    induction i with
    | zero => intro _; have := drn_lo (m 51) (p + 0); omega
    | succ i ih =>
      intro hi
      have := ih (by omega)
      rw [show p + (i + 1) = p + i + 1 by omega, drn_y (hk (p + i) (by omega) (by omega))]
      omega
  have he : e ≤ p + 5 := by
    have q1 := hr (e - p) (by omega)
    have q2 := (g.ok (e - 1) (by omega)).2.1
    rw [show e - 1 + 1 = e by omega] at q2
    rw [show p + (e - p) = e by omega] at q1
    omega
  refine ⟨e, by omega, k2, he, ?_, ?_, hk⟩
  · unfold Text_behindDigits
    rw [show gFu = (1000000000000 - (L - (p + 1)) - 2 + (L - (p + 1)) + 1) + 1 by show 1000000000000 = _; omega]
    show Text_behindDigits_2 (Text_behindDigits_2L _) _ _ = _
    unfold Text_behindDigits_2
    rw [h.1, w_nat (by omega), w_nat (by omega), if_neg (by omega), sgn h hp, g_bi_s, dgC c (h.vw hp), g_bi_s, w32_01 (dg_01 _)]
    unfold dg
    rw [if_pos hd, if_neg (by decide)]
    exact k3
  · unfold M_wordLong
    rw [w_nat (by omega), if_pos (by omega), Int.toNat_natCast, h.vw hp, if_neg (by omega), if_pos (by omega), if_neg (by omega)]
    obtain ⟨e', l1, l2, l3, l4, l5⟩ := digs_both h hp hd (L - (p + 1)) (p + 1) (1000000000000 - (L - (p + 1)) - 1) (by omega) (by omega)
    rw [show 1000000000000 - (L - (p + 1)) - 1 + (L - (p + 1)) + 1 = gFu by show _ = 1000000000000; omega, show (((p + 1 : Nat) : Int) - p) = 1 by omega] at l4
    rw [l4]
    have : e' = e := by
      have mono : ∀ (d i N N' : Nat) (x y : Int), i + d = L → Text_behindDigits_2L (N + d + 1) i c = some (x, c) → Text_behindDigits_2L (N' + d + 1) i c = some (y, c) → x = y := by
        intro d
        induction d with
        | zero =>
          intro i N N' x y hi a b
          have a' : Text_behindDigits_2 (Text_behindDigits_2L (N + 0)) i c = some (x, c) := a
          have b' : Text_behindDigits_2 (Text_behindDigits_2L (N' + 0)) i c = some (y, c) := b
          unfold Text_behindDigits_2 at a' b'
          rw [h.1, if_pos (by rw [show i = L by omega]; exact Int.le_refl _)] at a' b'
          exact (congrArg Prod.fst (Option.some.inj a')).symm.trans (congrArg Prod.fst (Option.some.inj b'))
        | succ d ih =>
          intro i N N' x y hi a b
          have a' : Text_behindDigits_2 (Text_behindDigits_2L (N + d + 1)) i c = some (x, c) := a
          have b' : Text_behindDigits_2 (Text_behindDigits_2L (N' + d + 1)) i c = some (y, c) := b
          unfold Text_behindDigits_2 at a' b'
          rw [h.1, w_nat (by omega), w_nat (by omega), if_neg (by omega), sgn h (by omega), g_bi_s, dgC c (h.vw (by omega)), g_bi_s, w32_01 (dg_01 _)] at a' b'
          unfold dg at a' b'
          by_cases q : isD (m 51 i)
          · rw [if_pos q, if_neg (by decide)] at a' b'
            exact ih (i + 1) N N' x y (by omega) a' b'
          · rw [if_neg q, if_pos rfl] at a' b'
            exact (congrArg Prod.fst (Option.some.inj a')).symm.trans (congrArg Prod.fst (Option.some.inj b'))
      have := mono _ _ _ _ _ _ (show (p + 1) + (L - (p + 1)) = L by omega) l3 k3
      omega
    rw [this]
theorem word_end (h : JS L c m) {p : Nat} (hp : p < L) : ∃ e : Nat, p < e ∧ e ≤ L ∧ Text_behind p c = some ((e : Int), c) ∧ M_wordLong p m = some ((e : Int) - p, m) ∧ ∀ z b, FR (m 51) L z p b → p < b → FR (m 51) L z e b := by
  have g := h.2.2.1
  have hL := g.le
  unfold Text_behind
  rw [sgn h hp, g_bi_s, h.vw hp]
  by_cases a1 : m 51 p = 123
  · obtain ⟨q, q1, q2⟩ := brc_ex g hp a1
    refine ⟨q + 1, by have := q2.1; omega, by omega, ?_, ?_, fun z b r hb => ?_⟩
    · rw [if_pos a1, closeC h q2 q1, g_bi_s]
      rfl
    · unfold M_wordLong
      rw [w_nat (by omega), if_pos (by omega), Int.toNat_natCast, h.vw hp, if_pos a1, closeM h q2 q1, g_bi_s]
      congr 2
      omega
    · have hq1 := q2.1
      refine r.to (by omega) ?_ q2.2.2.2.1
      rcases (show q + 1 ≤ b ∨ b ≤ q by omega) with x | x
      · exact x
      · have := q2.2.2.2.2 b hb x
        have := r.2.2.2.2.2.1
        omega
  · rw [if_neg a1]
    by_cases a2 : m 51 p = 58
    · have co := g.colon hp a2
      refine ⟨p + 2, by omega, by omega, ?_, ?_, fun z b r hb => ?_⟩
      · rw [if_pos a2]
        rfl
      · unfold M_wordLong
        rw [w_nat (by omega), if_pos (by omega), Int.toNat_natCast, h.vw hp, if_neg a1, if_pos (by omega), if_pos a2]
        congr 2
        omega
      · refine r.to (by omega) ?_ ?_
        · rcases (show p + 2 ≤ b ∨ b = p + 1 by omega) with x | x
          · exact x
          · rcases r.2.2.2.1 with y | y
            · omega
            · rw [x] at y; omega
        · rw [show p + 2 = p + 1 + 1 by omega, dep_s (by omega) (by omega), dep_s (by omega) (by omega)]
    · rw [if_neg a2, dgC c (h.vw hp), g_bi_s, w32_01 (dg_01 _)]
      by_cases a3 : isD (m 51 p)
      · obtain ⟨e, e1, e2, -, e3, e4, e5⟩ := digs_end h hp a3
        refine ⟨e, e1, e2, ?_, e4, fun z b r hb => ?_⟩
        · unfold dg
          rw [if_pos a3, if_neg (by decide), e3, g_bi_s]
        · refine r.to (by omega) ?_ ?_
          · rcases (show e ≤ b ∨ b < e by omega) with x | x
            · exact x
            · have := e5 b (by omega) x
              rcases r.2.2.2.1 with y | y <;> omega
          · have key : ∀ i, p + i ≤ e → dep (m 51) (p + i) = dep (m 51) p := by
              intro i
              induction i with
              | zero => intro _; rfl
              | succ i ih =>
                intro hi
                have := e5 (p + i) (by omega) (by omega)
                rw [show p + (i + 1) = p + i + 1 by omega, dep_s (by omega) (by omega)]
                exact ih (by omega)
            have := key (e - p) (by omega)
            rw [show p + (e - p) = e by omega] at this
            exact this
      · refine ⟨p + 1, by omega, by omega, ?_, ?_, fun z b r hb => r.to (by omega) (by omega) (dep_s a1 (r.no125 hb))⟩
        · unfold dg
          rw [if_neg a3, if_pos rfl]
          rfl
        · unfold M_wordLong
          rw [w_nat (by omega), if_pos (by omega), Int.toNat_natCast, h.vw hp, if_neg a1, if_pos (by omega), if_neg a2]
          show M_wordLong_36 _ _ _ _ = _
          unfold M_wordLong_36
          rw [w_nat (by omega), if_pos (by omega), Int.toNat_natCast, dgM m (h.vw hp), g_bi_s, w32_01 (dg_01 _)]
          unfold dg
          rw [if_neg a3, if_pos rfl]
          congr 2
          omega
theorem num_both (h : JS L c m) {K : Int → gS → gA} {p e : Nat} (hpe : p < e) (he : e ≤ L) (hw : M_wordLong p m = some ((e : Int) - p, m)) (hk : ∀ j, p ≤ j → j < e → isD (m 51 j)) : ∀ (d i N : Nat) (v : Int), p + i + d = e → 0 ≤ v → v < ((10 ^ i : Nat) : Int) → ∃ v' : Int, Text_number_11L (N + d + 1) e v ((p + i : Nat) : Int) c = some (v', c) ∧ M_step_65L K (N + d + 1) p v i m = K v' m ∧ 0 ≤ v' ∧ v' < ((10 ^ (e - p) : Nat) : Int) := by
  have hL := h.2.2.1.le
  intro d
  induction d with
  | zero =>
    intro i N v hi v0 v1
    refine ⟨v, ?_, ?_, v0, by rw [show e - p = i by omega]; exact v1⟩
    · show Text_number_11 _ _ _ _ _ = _
      unfold Text_number_11
      rw [w_nat (by omega), w_nat (by omega), if_pos (by omega)]
    · show M_step_65 _ _ _ _ _ _ = _
      unfold M_step_65
      rw [hw, g_bi_s, w32_id (z := (e : Int) - p) (by omega) (by omega), w_nat (by omega), if_pos (by omega)]
  | succ d ih =>
    intro i N v hi v0 v1
    have hd := hk (p + i) (by omega) (by omega)
    have hp10 : ((10 ^ (i + 1) : Nat) : Int) = 10 * ((10 ^ i : Nat) : Int) := by rw [Nat.pow_succ]; omega
    obtain ⟨v', k1, k2, k3, k4⟩ := ih (i + 1) N (10 * v + m 51 (p + i) - 48) (by omega) (by omega) (by omega)
    refine ⟨v', ?_, ?_, k3, k4⟩
    · show Text_number_11 (Text_number_11L (N + d + 1)) _ _ _ _ = _
      unfold Text_number_11
      rw [w_nat (by omega), w_nat (by omega), if_neg (by omega), sgn h (by omega), g_bi_s, g_le_s]
      exact k1
    · show M_step_65 (M_step_65L K (N + d + 1)) _ _ _ _ _ = _
      unfold M_step_65
      rw [hw, g_bi_s, w32_id (z := (e : Int) - p) (by omega) (by omega), w_nat (by omega), if_neg (by omega), show (p : Int) + (i : Int) = ((p + i : Nat) : Int) by omega, w_nat (by omega), if_pos (by omega), g_le_s, Int.toNat_natCast]
      exact k2
theorem number_both (h : JS L c m) {p : Nat} (hp : p < L) (hd : isD (m 51 p)) : ∃ v : Int, Text_number p c = some (v, c) ∧ (∀ K : Int → gS → gA, M_step_65L K gFu p 0 0 m = K v m) ∧ 0 ≤ v ∧ v < 100000 := by
  have hL := h.2.2.1.le
  obtain ⟨e, e1, e2, e3, e4, e5, e6⟩ := digs_end h hp hd
  have key : ∀ K : Int → gS → gA, ∃ v' : Int, Text_number_11L gFu e 0 p c = some (v', c) ∧ M_step_65L K gFu p 0 0 m = K v' m ∧ 0 ≤ v' ∧ v' < ((10 ^ (e - p) : Nat) : Int) := by
    intro K
    have := num_both h (K := K) e1 e2 e5 e6 (e - p) 0 (1000000000000 - (e - p) - 1) 0 (by omega) (by omega) (by decide)
    rw [show 1000000000000 - (e - p) - 1 + (e - p) + 1 = gFu by show _ = 1000000000000; omega] at this
    exact this
  obtain ⟨v, v1, v2, v3, v4⟩ := key fun z s => some (z, s)
  refine ⟨v, ?_, fun K => ?_, v3, ?_⟩
  · unfold Text_number
    rw [e4, g_bi_s]
    exact v1
  · obtain ⟨w, w1, w2, -, -⟩ := key K
    rw [show v = w from congrArg Prod.fst (Option.some.inj (v1.symm.trans w1))]
    exact w2
  · have : 10 ^ (e - p) ≤ 10 ^ 5 := Nat.pow_le_pow_right (by decide) (by omega)
    omega
end SC

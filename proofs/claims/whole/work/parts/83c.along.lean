/-! the model's curves -/
section PA
variable {s : Nat} {c m c' m' : gS}
/-- the model's way to the k-th of eight -/
def alg : Nat → Int → Int → Int → Int → Nat → Nat → Int
  | 0, p, _, _, t, k, _ => if k = 0 then p else t
  | n + 1, p, q, r, t, k, w => if k = 0 ∨ w ≤ k ∨ w ≤ 1 then (if k = 0 then p else t) else if w / 2 < k then alg n (hm (hm (hm p q) (hm q r)) (hm (hm q r) (hm r t))) (hm (hm q r) (hm r t)) (hm r t) t (k - w / 2) (w / 2) else alg n p (hm p q) (hm (hm p q) (hm q r)) (hm (hm (hm p q) (hm q r)) (hm (hm q r) (hm r t))) k (w / 2)
theorem hv4 {g : Nat → Int} {A H : Nat} {p q r t : Int} (hH : 0 < H) (e0 : g A = p) (e1 : g (A + 2 * H) = q) (e2 : g (A + 4 * H) = r) (e3 : g (A + 6 * H) = t) : hv g A H A = p ∧ hv g A H (A + H) = hm p q ∧ hv g A H (A + 2 * H) = hm (hm p q) (hm q r) ∧ hv g A H (A + 3 * H) = hm (hm (hm p q) (hm q r)) (hm (hm q r) (hm r t)) ∧ hv g A H (A + 4 * H) = hm (hm q r) (hm r t) ∧ hv g A H (A + 5 * H) = hm r t ∧ hv g A H (A + 6 * H) = t := by
  unfold hv
  rw [e0, e1, e2, e3]
  refine ⟨?_, ?_, ?_, ?_, ?_, ?_, ?_⟩
  · rw [if_neg (by omega), if_neg (by omega), if_neg (by omega), if_neg (by omega), if_neg (by omega)]
  · rw [if_neg (by omega), if_neg (by omega), if_neg (by omega), if_neg (by omega), if_pos rfl]
  · rw [if_neg (by omega), if_neg (by omega), if_neg (by omega), if_pos rfl]
  · rw [if_neg (by omega), if_neg (by omega), if_pos rfl]
  · rw [if_neg (by omega), if_pos rfl]
  · rw [if_pos rfl]
  · rw [if_neg (by omega), if_neg (by omega), if_neg (by omega), if_neg (by omega), if_neg (by omega)]
theorem hv_out {g : Nat → Int} {A H j : Nat} (hH : 0 < H) (h : j ≤ A ∨ A + 6 * H ≤ j) : hv g A H j = g j := by
  unfold hv
  rw [if_neg (by omega), if_neg (by omega), if_neg (by omega), if_neg (by omega), if_neg (by omega)]
theorem alg_lo {n k w : Nat} {p q r t : Int} (h0 : k ≠ 0) (h1 : k < w) (h2 : 1 < w) (h3 : k ≤ w / 2) : alg (n + 1) p q r t k w = alg n p (hm p q) (hm (hm p q) (hm q r)) (hm (hm (hm p q) (hm q r)) (hm (hm q r) (hm r t))) k (w / 2) := by
  simp only [alg]
  rw [if_neg (by omega), if_neg (by omega)]
theorem alg_hi {n k w : Nat} {p q r t : Int} (h1 : k < w) (h2 : 1 < w) (h3 : w / 2 < k) : alg (n + 1) p q r t k w = alg n (hm (hm (hm p q) (hm q r)) (hm (hm q r) (hm r t))) (hm (hm q r) (hm r t)) (hm r t) t (k - w / 2) (w / 2) := by
  simp only [alg]
  rw [if_neg (by omega), if_pos (by omega)]
theorem alg_ex {n k w : Nat} {p q r t : Int} (h0 : k ≠ 0) (h1 : w ≤ k) : alg n p q r t k w = t := by
  cases n with
  | zero => simp only [alg]; rw [if_neg h0]
  | succ n => simp only [alg]; rw [if_pos (by omega), if_neg h0]
/-- a stretch of six after the last halving -/
theorem hr_6 {x : Nat → Int} {A : Nat} {p q r t : Int} (e0 : x A = p) (e1 : x (A + 2) = q) (e2 : x (A + 4) = r) (e3 : x (A + 6) = t) : hv x A 1 (A + 3) = alg 1 p q r t 1 2 ∧ hv x A 1 (A + 6) = alg 1 p q r t 2 2 := by
  obtain ⟨-, -, -, a3, -, -, a6⟩ := hv4 (g := x) (A := A) (H := 1) (by decide) e0 e1 e2 e3
  rw [alg_lo (by decide) (by decide) (by decide) (by decide), alg_ex (by decide) (by decide), alg_ex (by decide) (by decide)]
  exact ⟨a3, a6⟩
theorem hr_alg (g : Nat → Int) : hr g 3 = alg 3 (g 0) (g 8) (g 16) (g 24) 1 8 ∧ hr g 6 = alg 3 (g 0) (g 8) (g 16) (g 24) 2 8 ∧ hr g 9 = alg 3 (g 0) (g 8) (g 16) (g 24) 3 8 ∧ hr g 12 = alg 3 (g 0) (g 8) (g 16) (g 24) 4 8 ∧ hr g 15 = alg 3 (g 0) (g 8) (g 16) (g 24) 5 8 ∧ hr g 18 = alg 3 (g 0) (g 8) (g 16) (g 24) 6 8 ∧ hr g 21 = alg 3 (g 0) (g 8) (g 16) (g 24) 7 8 ∧ hr g 24 = alg 3 (g 0) (g 8) (g 16) (g 24) 8 8 := by
  obtain ⟨p, hp⟩ : ∃ p, g 0 = p := ⟨_, rfl⟩
  obtain ⟨q, hq⟩ : ∃ p, g 8 = p := ⟨_, rfl⟩
  obtain ⟨r, hrr⟩ : ∃ p, g 16 = p := ⟨_, rfl⟩
  obtain ⟨t, ht⟩ : ∃ p, g 24 = p := ⟨_, rfl⟩
  rw [hp, hq, hrr, ht]
  have s1 := hv4 (g := g) (A := 0) (H := 4) (by decide) hp hq hrr ht
  simp only [Nat.zero_add, Nat.reduceMul] at s1
  unfold hr
  generalize hv g 0 4 = g1 at s1 ⊢
  rw [alg_lo (k := 1) (w := 8) (by decide) (by decide) (by decide) (by decide), alg_lo (k := 2) (w := 8) (by decide) (by decide) (by decide) (by decide), alg_lo (k := 3) (w := 8) (by decide) (by decide) (by decide) (by decide), alg_lo (k := 4) (w := 8) (by decide) (by decide) (by decide) (by decide), alg_hi (k := 5) (w := 8) (by decide) (by decide) (by decide), alg_hi (k := 6) (w := 8) (by decide) (by decide) (by decide), alg_hi (k := 7) (w := 8) (by decide) (by decide) (by decide), alg_ex (k := 8) (w := 8) (by decide) (by decide)]
  simp only [Nat.reduceDiv, Nat.reduceSub]
  generalize hm (hm (hm p q) (hm q r)) (hm (hm q r) (hm r t)) = h at s1 ⊢
  generalize hm (hm p q) (hm q r) = e at s1 ⊢
  generalize hm (hm q r) (hm r t) = f at s1 ⊢
  generalize hm p q = a at s1 ⊢
  generalize hm r t = d at s1 ⊢
  obtain ⟨b0, b4, b8, b12, b16, b20, b24⟩ := s1
  have s2 := hv4 (g := g1) (A := 0) (H := 2) (by decide) b0 b4 b8 b12
  have o2 : ∀ j, 12 ≤ j → hv g1 0 2 j = g1 j := fun j hj => hv_out (by decide) (Or.inr hj)
  simp only [Nat.zero_add, Nat.reduceMul] at s2
  generalize hv g1 0 2 = g2 at s2 o2 ⊢
  have s3 := hv4 (g := g2) (A := 12) (H := 2) (by decide) ((o2 12 (by decide)).trans b12) ((o2 16 (by decide)).trans b16) ((o2 20 (by decide)).trans b20) ((o2 24 (by decide)).trans b24)
  have o3 : ∀ j, j ≤ 12 → hv g2 12 2 j = g2 j := fun j hj => hv_out (by decide) (Or.inl hj)
  simp only [Nat.reduceAdd, Nat.reduceMul] at s3
  generalize hv g2 12 2 = g3 at s3 o3 ⊢
  rw [alg_lo (k := 1) (w := 4) (p := p) (by decide) (by decide) (by decide) (by decide), alg_lo (k := 2) (w := 4) (p := p) (by decide) (by decide) (by decide) (by decide), alg_hi (k := 3) (w := 4) (p := p) (by decide) (by decide) (by decide), alg_ex (k := 4) (w := 4) (by decide) (by decide), alg_lo (k := 1) (w := 4) (p := h) (by decide) (by decide) (by decide) (by decide), alg_lo (k := 2) (w := 4) (p := h) (by decide) (by decide) (by decide) (by decide), alg_hi (k := 3) (w := 4) (p := h) (by decide) (by decide) (by decide)]
  simp only [Nat.reduceDiv, Nat.reduceSub]
  generalize hm (hm (hm p a) (hm a e)) (hm (hm a e) (hm e h)) = h1 at s2 ⊢
  generalize hm (hm p a) (hm a e) = e1 at s2 ⊢
  generalize hm (hm a e) (hm e h) = f1 at s2 ⊢
  generalize hm p a = a1 at s2 ⊢
  generalize hm e h = d1 at s2 ⊢
  generalize hm (hm (hm h f) (hm f d)) (hm (hm f d) (hm d t)) = h2 at s3 ⊢
  generalize hm (hm h f) (hm f d) = e2 at s3 ⊢
  generalize hm (hm f d) (hm d t) = f2 at s3 ⊢
  generalize hm h f = a2 at s3 ⊢
  generalize hm d t = d2 at s3 ⊢
  obtain ⟨y0, y2, y4, y6, y8, y10, y12⟩ := s2
  obtain ⟨z12, z14, z16, z18, z20, z22, z24⟩ := s3
  obtain ⟨u3, u6⟩ := hr_6 (x := g3) (A := 0) ((o3 0 (by decide)).trans y0) ((o3 2 (by decide)).trans y2) ((o3 4 (by decide)).trans y4) ((o3 6 (by decide)).trans y6)
  have v3 : ∀ j, 6 ≤ j → hv g3 0 1 j = g3 j := fun j hj => hv_out (by decide) (Or.inr hj)
  simp only [Nat.zero_add] at u3 u6
  generalize hv g3 0 1 = g4 at u3 u6 v3 ⊢
  obtain ⟨u9, u12⟩ := hr_6 (x := g4) (A := 6) ((v3 6 (by decide)).trans ((o3 6 (by decide)).trans y6)) ((v3 8 (by decide)).trans ((o3 8 (by decide)).trans y8)) ((v3 10 (by decide)).trans ((o3 10 (by decide)).trans y10)) ((v3 12 (by decide)).trans ((o3 12 (by decide)).trans y12))
  have v4 : ∀ j, j ≤ 6 ∨ 12 ≤ j → hv g4 6 1 j = g4 j := fun j hj => hv_out (by decide) hj
  simp only [Nat.reduceAdd] at u9 u12
  generalize hv g4 6 1 = g5 at u9 u12 v4 ⊢
  obtain ⟨u15, u18⟩ := hr_6 (x := g5) (A := 12) ((v4 12 (by decide)).trans ((v3 12 (by decide)).trans z12)) ((v4 14 (by decide)).trans ((v3 14 (by decide)).trans z14)) ((v4 16 (by decide)).trans ((v3 16 (by decide)).trans z16)) ((v4 18 (by decide)).trans ((v3 18 (by decide)).trans z18))
  have v5 : ∀ j, j ≤ 12 ∨ 18 ≤ j → hv g5 12 1 j = g5 j := fun j hj => hv_out (by decide) hj
  simp only [Nat.reduceAdd] at u15 u18
  generalize hv g5 12 1 = g6 at u15 u18 v5 ⊢
  obtain ⟨u21, u24⟩ := hr_6 (x := g6) (A := 18) ((v5 18 (by decide)).trans ((v4 18 (by decide)).trans ((v3 18 (by decide)).trans z18))) ((v5 20 (by decide)).trans ((v4 20 (by decide)).trans ((v3 20 (by decide)).trans z20))) ((v5 22 (by decide)).trans ((v4 22 (by decide)).trans ((v3 22 (by decide)).trans z22))) ((v5 24 (by decide)).trans ((v4 24 (by decide)).trans ((v3 24 (by decide)).trans z24)))
  have v6 : ∀ j, j ≤ 18 → hv g6 18 1 j = g6 j := fun j hj => hv_out (by decide) (Or.inl hj)
  simp only [Nat.reduceAdd] at u21 u24
  generalize hv g6 18 1 = g7 at u21 u24 v6 ⊢
  have x2 : ∀ (p q r t : Int), alg 1 p q r t 2 2 = t := fun p q r t => alg_ex (by decide) (by decide)
  rw [x2] at u6 u12 u18 u24
  refine ⟨?_, ?_, ?_, ?_, ?_, ?_, ?_, u24⟩
  · rw [v6 3 (by decide), v5 3 (by decide), v4 3 (by decide)]; exact u3
  · rw [v6 6 (by decide), v5 6 (by decide), v4 6 (by decide), x2]; exact u6
  · rw [v6 9 (by decide), v5 9 (by decide)]; exact u9
  · rw [v6 12 (by decide), v5 12 (by decide)]; exact u12
  · rw [v6 15 (by decide)]; exact u15
  · rw [v6 18 (by decide), x2]; exact u18
  · exact u21
theorem alg_bd {B : Nat} (hB : B ≤ 1000000000) : ∀ (n : Nat) (p q r t : Int) (k w : Nat), -(B : Int) ≤ p ∧ p ≤ B → -(B : Int) ≤ q ∧ q ≤ B → -(B : Int) ≤ r ∧ r ≤ B → -(B : Int) ≤ t ∧ t ≤ B → -(B : Int) ≤ alg n p q r t k w ∧ alg n p q r t k w ≤ B := by
  have hmb : ∀ a b : Int, -(B : Int) ≤ a ∧ a ≤ B → -(B : Int) ≤ b ∧ b ≤ B → -(B : Int) ≤ hm a b ∧ hm a b ≤ B := fun a b x y => i_shr_bd hB x.1 x.2 y.1 y.2
  intro n
  induction n with
  | zero => intro p q r t k w hp hq hr ht; simp only [alg]; split <;> assumption
  | succ n ih =>
    intro p q r t k w hp hq hr ht
    have a := hmb p q hp hq
    have b := hmb q r hq hr
    have d := hmb r t hr ht
    have e := hmb _ _ a b
    have f := hmb _ _ b d
    have g := hmb _ _ e f
    simp only [alg]
    split
    · split <;> assumption
    · split
      · exact ih _ _ _ _ _ _ g f d ht
      · exact ih _ _ _ _ _ _ hp a e g
theorem along_is : ∀ (n : Nat) (p q r t : Int) (k w N : Nat), w ≤ 2 ^ n → w ≤ 8 → k ≤ 8 → M_along_77L M_along_199 (N + n + 1) p q r t k w m = some (alg n p q r t k w, m) := by
  have ex : ∀ (p t : Int) (k : Nat), k ≤ 8 → M_along_199 p t k m = some (if k = 0 then p else t, m) := by
    intro p t k hk
    unfold M_along_199
    rw [w_nat (by omega)]
    by_cases e : k = 0
    · rw [if_pos (by omega), if_pos e]
    · rw [if_neg (by omega), if_neg e]
  intro n
  induction n with
  | zero =>
    intro p q r t k w N h1 h2 h3
    show M_along_77 _ _ _ _ _ _ _ _ _ = _
    unfold M_along_77
    rw [w_nat (by omega), if_pos (by omega), ex p t k h3]
    rfl
  | succ n ih =>
    intro p q r t k w N h1 h2 h3
    show M_along_77 (M_along_77L M_along_199 (N + n + 1)) _ _ _ _ _ _ _ _ = _
    unfold M_along_77 M_along_196
    rw [w_nat (by omega), w_nat (by omega)]
    simp only [alg]
    by_cases e1 : w ≤ 1
    · rw [if_pos (by omega), if_pos (by omega), ex p t k h3]
    rw [if_neg (by omega)]
    by_cases e2 : k = 0
    · rw [if_pos (by omega), if_pos (by omega), ex p t k h3]
    rw [if_neg (by omega)]
    by_cases e3 : w ≤ k
    · rw [if_pos (by omega), if_pos (by omega), ex p t k h3]
    rw [if_neg (by omega), if_neg (by omega), g_le_s, g_le_s, g_le_s, g_le_s, g_le_s, g_le_s, g_le_s, i_div_nn (by omega) (by omega) (by decide) (by decide), show (w : Int) / 2 = ((w / 2 : Nat) : Int) by omega, w_nat (by omega)]
    have hw : w / 2 ≤ 2 ^ n := by rw [Nat.pow_succ] at h1; omega
    by_cases e4 : w / 2 < k
    · rw [if_pos (by omega), if_pos e4, g_le_s, show (k : Int) - ((w / 2 : Nat) : Int) = ((k - w / 2 : Nat) : Int) by omega]
      exact ih _ _ _ _ _ _ N hw (by omega) (by omega)
    · rw [if_neg (by omega), if_neg e4]
      exact ih _ _ _ _ _ _ N hw (by omega) (by omega)
end PA

/-! octets of a line, packed -/
def PK (c m : gS) (sz : Nat) (x u : gS) : Prop := x 46 1 = sz ∧ u 49 39 = sz ∧ (∀ i, i < sz → x 47 i = u 66 i) ∧ x 35 = c 35 ∧ x 34 = c 34 ∧ u 64 = m 64
def kC (q : Nat) : Bool := decide (46 ≤ q) && decide (q ≤ 48)
def kM (q k : Nat) : Bool := (decide (q = 49) && decide (k = 39)) || decide (q = 66)
section OC
variable {p : Nat} {c m x u : gS} {sz : Nat}
theorem add_both (h : PK c m sz x u) (hs : sz < 128) (v : Int) : ∃ x' u', Packer_add v x = some (0, x') ∧ M_out v u = some (0, u') ∧ PK c m (sz + 1) x' u' ∧ x' 48 = x 48 ∧ fC kC x x' ∧ fM kM u u' := by
  obtain ⟨h1, h2, h3, h4, h5, h6⟩ := h
  refine ⟨g_up (g_up x 47 sz v) 46 1 ((sz : Int) + 1), g_up (g_up u 66 sz v) 49 39 ((sz : Int) + 1), ?_, ?_, ⟨by rw [up_y]; rfl, by rw [up_y]; rfl, fun i hi => ?_, by rw [g_up_ne (by decide), g_up_ne (by decide)]; exact h4, by rw [g_up_ne (by decide), g_up_ne (by decide)]; exact h5, by rw [g_up_ne (by decide), g_up_ne (by decide)]; exact h6⟩, by rw [g_up_ne (by decide), g_up_ne (by decide)], fC_tr (fC_up rfl) (fC_up rfl), fM_tr (fM_up rfl) (fM_up rfl)⟩
  · unfold Packer_add
    rw [h1, w_nat (by omega), if_neg (by omega), if_pos ⟨by omega, by omega⟩, g_le_s, g_le_s, Int.toNat_natCast, g_up_ne (show 46 ≠ 47 by decide), h1]
  · unfold M_out
    rw [h2, w_nat (by omega), if_pos ⟨by omega, by omega⟩, g_le_s, g_le_s, Int.toNat_natCast, g_up_ne (show 49 ≠ 66 by decide), h2]
  · rw [g_up_ne (show 47 ≠ 46 by decide), g_up_ne (show 66 ≠ 49 by decide)]
    by_cases e : i = sz
    · rw [e, up_y, up_y]
    · rw [up_n (by omega), up_n (by omega)]; exact h3 i (by omega)
theorem byteU (hb : BR (fun y => c 35 (48 * p + y)) (fun j => m 64 (3072 * p + j))) (hp : p < 8) (hu : u 64 = m 64) {y i : Nat} (hy : y < 48) (hi : i < 8) : M_byteOf p y i u = some (oct (c 35 (48 * p + y)) i, u) := byteM (c := c) (m := u) (by rw [hu]; exact hb) hp hy hi
section LI
variable {y : Nat}
theorem like_loop (hb : BR (fun y => c 35 (48 * p + y)) (fun j => m 64 (3072 * p + j))) (hp : p < 8) (hy : y < 48) (hu : u 64 = m 64) (hx : ∀ i, i < 8 → x 48 i = oct (c 35 (48 * p + y)) i) {i : Nat} (hi : i < 8) : ∀ (d j N N2 : Nat), j + d = 8 → i < j → ∃ e : Nat, j ≤ e ∧ e ≤ 8 ∧ Packer_octetsAlike_2L (N + d + 1) i j x = some (((e - i : Nat) : Int), x) ∧ M_alike_3L (N2 + d + 1) p y i ((j - i : Nat) : Int) u = some (((e - i : Nat) : Int), u) := by
  intro d
  induction d with
  | zero =>
    intro j N N2 hj hij
    refine ⟨j, by omega, by omega, ?_, ?_⟩
    · show Packer_octetsAlike_2 _ _ _ _ = _
      unfold Packer_octetsAlike_2
      rw [w_nat (show j < 2147483648 by omega), if_pos (by omega), show (j : Int) - i = ((j - i : Nat) : Int) by omega]
    · show M_alike_3 _ _ _ _ _ _ = _
      unfold M_alike_3
      rw [show (i : Int) + ((j - i : Nat) : Int) = (j : Int) by omega, w_nat (show j < 2147483648 by omega), if_pos (by omega)]
  | succ d ih =>
    intro j N N2 hj hij
    have oj := oct_bd (c 35 (48 * p + y)) j
    have oi := oct_bd (c 35 (48 * p + y)) i
    have b1 : (0 : Int) ≤ (j : Int) ∧ (j : Int) < 8 := ⟨by omega, by omega⟩
    have b2 : (0 : Int) ≤ (i : Int) ∧ (i : Int) < 8 := ⟨by omega, by omega⟩
    have eC : Packer_octetsAlike_2L (N + (d + 1) + 1) i j x = if oct (c 35 (48 * p + y)) j = oct (c 35 (48 * p + y)) i then Packer_octetsAlike_2L (N + d + 1) i ((j + 1 : Nat) : Int) x else some (((j - i : Nat) : Int), x) := by
      show Packer_octetsAlike_2 (Packer_octetsAlike_2L (N + d + 1)) _ _ _ = _
      unfold Packer_octetsAlike_2
      rw [w_nat (show j < 2147483648 by omega), w_nat (show i < 2147483648 by omega), if_neg (by omega), if_pos b1, if_pos b2, Int.toNat_natCast, Int.toNat_natCast, hx j (by omega), hx i hi, w32_id (z := oct (c 35 (48 * p + y)) j) (by omega) (by omega), w32_id (z := oct (c 35 (48 * p + y)) i) (by omega) (by omega), show (j : Int) - i = ((j - i : Nat) : Int) by omega]
      rfl
    have eM : M_alike_3L (N2 + (d + 1) + 1) p y i ((j - i : Nat) : Int) u = if oct (c 35 (48 * p + y)) j = oct (c 35 (48 * p + y)) i then M_alike_3L (N2 + d + 1) p y i ((j + 1 - i : Nat) : Int) u else some (((j - i : Nat) : Int), u) := by
      show M_alike_3 (M_alike_3L (N2 + d + 1)) _ _ _ _ _ = _
      unfold M_alike_3
      rw [show (i : Int) + ((j - i : Nat) : Int) = (j : Int) by omega, w_nat (show j < 2147483648 by omega), if_neg (by omega), byteU hb hp hu hy (by omega), g_bi_s, byteU hb hp hu hy hi, g_bi_s, w32_id (z := oct (c 35 (48 * p + y)) j) (by omega) (by omega), w32_id (z := oct (c 35 (48 * p + y)) i) (by omega) (by omega), show ((j - i : Nat) : Int) + 1 = ((j + 1 - i : Nat) : Int) by omega]
    rw [eC, eM]
    by_cases q : oct (c 35 (48 * p + y)) j = oct (c 35 (48 * p + y)) i
    · rw [if_pos q, if_pos q]
      obtain ⟨e, k1, k2, k3, k4⟩ := ih (j + 1) N N2 (by omega) (by omega)
      exact ⟨e, by omega, k2, k3, k4⟩
    · rw [if_neg q, if_neg q]
      exact ⟨j, by omega, by omega, rfl, rfl⟩
theorem like_both (hb : BR (fun y => c 35 (48 * p + y)) (fun j => m 64 (3072 * p + j))) (hp : p < 8) (hy : y < 48) (hu : u 64 = m 64) (hx : ∀ i, i < 8 → x 48 i = oct (c 35 (48 * p + y)) i) {i : Nat} (hi : i < 8) : ∃ e : Nat, i < e ∧ e ≤ 8 ∧ Packer_octetsAlike i x = some (((e - i : Nat) : Int), x) ∧ M_alike p y i u = some (((e - i : Nat) : Int), u) := by
  obtain ⟨e, k1, k2, k3, k4⟩ := like_loop hb hp hy hu hx hi (8 - (i + 1)) (i + 1) (1000000000000 - (8 - (i + 1)) - 2) (1000000000000 - (8 - (i + 1)) - 1) (by omega) (by omega)
  rw [show 1000000000000 - (8 - (i + 1)) - 1 + (8 - (i + 1)) + 1 = gFu by show _ = 1000000000000; omega, show i + 1 - i = 1 by omega, show ((1 : Nat) : Int) = 1 from rfl] at k4
  refine ⟨e, by omega, k2, ?_, k4⟩
  unfold Packer_octetsAlike
  rw [show gFu = (1000000000000 - (8 - (i + 1)) - 2 + (8 - (i + 1)) + 1) + 1 by show 1000000000000 = _; omega]
  show Packer_octetsAlike_2 (Packer_octetsAlike_2L _) _ _ _ = _
  unfold Packer_octetsAlike_2
  have b2 : (0 : Int) ≤ (i : Int) ∧ (i : Int) < 8 := ⟨by omega, by omega⟩
  rw [w_nat (show i < 2147483648 by omega), if_neg (by omega), if_pos b2, if_pos b2, if_pos rfl]
  exact k3
theorem apart_loop {K : Int → Int → Int → Int → gS → gA} (hb : BR (fun y => c 35 (48 * p + y)) (fun j => m 64 (3072 * p + j))) (hp : p < 8) (hy : y < 48) (hu : u 64 = m 64) (hx : ∀ i, i < 8 → x 48 i = oct (c 35 (48 * p + y)) i) {i : Nat} (hi : i < 8) : ∀ (d j N N2 : Nat), j + d = 8 → i < j → ∃ e : Nat, j ≤ e ∧ e ≤ 8 ∧ Packer_octetsApart_2L (N + d + 1) i j x = some (((e - i : Nat) : Int), x) ∧ M_line_47L K (N2 + d + 1) p y i ((j - i : Nat) : Int) u = K p y i ((e - i : Nat) : Int) u := by
  intro d
  induction d with
  | zero =>
    intro j N N2 hj hij
    refine ⟨j, by omega, by omega, ?_, ?_⟩
    · show Packer_octetsApart_2 _ _ _ _ = _
      unfold Packer_octetsApart_2
      rw [w_nat (show j < 2147483648 by omega), if_pos (by omega), show (j : Int) - i = ((j - i : Nat) : Int) by omega]
    · show M_line_47 _ K _ _ _ _ _ = _
      unfold M_line_47
      rw [show (i : Int) + ((j - i : Nat) : Int) = (j : Int) by omega, w_nat (show j < 2147483648 by omega), if_pos (by omega)]
  | succ d ih =>
    intro j N N2 hj hij
    obtain ⟨e0, a1, a2, a3, a4⟩ := like_both hb hp hy hu hx (i := j) (by omega)
    have eC : Packer_octetsApart_2L (N + (d + 1) + 1) i j x = if 2 ≤ ((e0 - j : Nat) : Int) then some (((j - i : Nat) : Int), x) else Packer_octetsApart_2L (N + d + 1) i ((j + 1 : Nat) : Int) x := by
      show Packer_octetsApart_2 (Packer_octetsApart_2L (N + d + 1)) _ _ _ = _
      unfold Packer_octetsApart_2
      rw [w_nat (show j < 2147483648 by omega), if_neg (by omega), a3, g_bi_s, w_nat (show e0 - j < 2147483648 by omega), show (j : Int) - i = ((j - i : Nat) : Int) by omega]
      rfl
    have eM : M_line_47L K (N2 + (d + 1) + 1) p y i ((j - i : Nat) : Int) u = if 2 ≤ ((e0 - j : Nat) : Int) then K p y i ((j - i : Nat) : Int) u else M_line_47L K (N2 + d + 1) p y i ((j + 1 - i : Nat) : Int) u := by
      show M_line_47 (M_line_47L K (N2 + d + 1)) K _ _ _ _ _ = _
      unfold M_line_47
      rw [show (i : Int) + ((j - i : Nat) : Int) = (j : Int) by omega, w_nat (show j < 2147483648 by omega), if_neg (by omega), a4, g_bi_s, w_nat (show e0 - j < 2147483648 by omega), show ((j - i : Nat) : Int) + 1 = ((j + 1 - i : Nat) : Int) by omega]
    rw [eC, eM]
    by_cases q : 2 ≤ ((e0 - j : Nat) : Int)
    · rw [if_pos q, if_pos q]
      exact ⟨j, by omega, by omega, rfl, rfl⟩
    · rw [if_neg q, if_neg q]
      obtain ⟨e, k1, k2, k3, k4⟩ := ih (j + 1) N N2 (by omega) (by omega)
      exact ⟨e, by omega, k2, k3, k4⟩
theorem copy_oct {K : Int → Int → gS → gA} {K2 : Int → Int → Int → Int → gS → gA} {i cnt : Nat} (hb : BR (fun y => c 35 (48 * p + y)) (fun j => m 64 (3072 * p + j))) (hp : p < 8) (hy : y < 48) (hc : i + cnt ≤ 8) : ∀ (d j N N2 sz : Nat) (x u : gS), j + d = cnt → PK c m sz x u → sz + d ≤ 128 → (∀ i, i < 8 → x 48 i = oct (c 35 (48 * p + y)) i) → ∃ x' u', Packer_packLine_97L K (N + d + 1) cnt i ((i + j : Nat) : Int) x = K cnt i x' ∧ M_line_85L K2 (N2 + d + 1) p y i cnt j u = K2 p y i cnt u' ∧ PK c m (sz + d) x' u' ∧ x' 48 = x 48 ∧ fC kC x x' ∧ fM kM u u' := by
  intro d
  induction d with
  | zero =>
    intro j N N2 sz x u hj hk hs hx
    refine ⟨x, u, ?_, ?_, hk, rfl, fC_rf _ _, fM_rf _ _⟩
    · show Packer_packLine_97 _ K _ _ _ _ = _
      unfold Packer_packLine_97
      rw [show (i : Int) + (cnt : Int) = ((i + cnt : Nat) : Int) by omega, w_nat (show i + cnt < 2147483648 by omega), w_nat (show i + j < 2147483648 by omega), if_pos (by omega)]
    · show M_line_85 _ K2 _ _ _ _ _ _ = _
      unfold M_line_85
      rw [w_nat (show cnt < 2147483648 by omega), w_nat (show j < 2147483648 by omega), if_pos (by omega)]
  | succ d ih =>
    intro j N N2 sz x u hj hk hs hx
    obtain ⟨x1, u1, a1, a2, a3, a4, a5, a6⟩ := add_both hk (by omega) (oct (c 35 (48 * p + y)) (i + j))
    obtain ⟨x', u', i1, i2, i3, i4, i5, i6⟩ := ih (j + 1) N N2 (sz + 1) x1 u1 (by omega) a3 (by omega) (by rw [a4]; exact hx)
    refine ⟨x', u', ?_, ?_, by rw [show sz + (d + 1) = sz + 1 + d by omega]; exact i3, by rw [i4, a4], fC_tr a5 i5, fM_tr a6 i6⟩
    · show Packer_packLine_97 (Packer_packLine_97L K (N + d + 1)) K _ _ _ _ = _
      unfold Packer_packLine_97
      rw [show (i : Int) + (cnt : Int) = ((i + cnt : Nat) : Int) by omega, w_nat (show i + cnt < 2147483648 by omega), w_nat (show i + j < 2147483648 by omega), if_neg (by omega), if_pos ⟨by omega, by omega⟩, Int.toNat_natCast, hx (i + j) (by omega), a1, g_bi_s]
      exact i1
    · show M_line_85 (M_line_85L K2 (N2 + d + 1)) K2 _ _ _ _ _ _ = _
      unfold M_line_85
      rw [w_nat (show cnt < 2147483648 by omega), w_nat (show j < 2147483648 by omega), if_neg (by omega), show (i : Int) + (j : Int) = ((i + j : Nat) : Int) by omega, byteU hb hp hk.2.2.2.2.2 hy (by omega), g_bi_s, a2, g_bi_s]
      exact i2
theorem line_loop (hb : BR (fun y => c 35 (48 * p + y)) (fun j => m 64 (3072 * p + j))) (hp : p < 8) (hy : y < 48) : ∀ (d i N N2 sz : Nat) (x u : gS), 8 - i ≤ d → i ≤ 8 → PK c m sz x u → sz + 2 * (8 - i) ≤ 128 → (∀ i, i < 8 → x 48 i = oct (c 35 (48 * p + y)) i) → ∃ (t : Nat) (x' u' : gS), Packer_packLine_39L (N + d + 1) i x = some (0, x') ∧ M_line_2L (N2 + d + 1) p y i u = some (0, u') ∧ PK c m t x' u' ∧ t ≤ sz + 2 * (8 - i) ∧ fC kC x x' ∧ fM kM u u' := by
  intro d
  induction d with
  | zero =>
    intro i N N2 sz x u hd hi hk hs hx
    have : i = 8 := by omega
    subst this
    refine ⟨sz, x, u, ?_, ?_, hk, by omega, fC_rf _ _, fM_rf _ _⟩
    · show Packer_packLine_39 _ _ _ = _
      unfold Packer_packLine_39
      rw [if_pos (by decide)]
    · show M_line_2 _ _ _ _ _ = _
      unfold M_line_2
      rw [if_pos (by decide)]
  | succ d ih =>
    intro i N N2 sz x u hd hi hk hs hx
    rcases (show i = 8 ∨ i < 8 by omega) with rfl | hi8
    · refine ⟨sz, x, u, ?_, ?_, hk, by omega, fC_rf _ _, fM_rf _ _⟩
      · show Packer_packLine_39 _ _ _ = _
        unfold Packer_packLine_39
        rw [if_pos (by decide)]
      · show M_line_2 _ _ _ _ _ = _
        unfold M_line_2
        rw [if_pos (by decide)]
    obtain ⟨e, e1, e2, e3, e4⟩ := like_both hb hp hy hk.2.2.2.2.2 hx hi8
    have mx : ∀ (cnt : Nat) (x1 : gS), 1 ≤ cnt → cnt ≤ 8 → Packer_packLine_123 (Packer_packLine_39L (N + d + 1)) cnt i x1 = Packer_packLine_39L (N + d + 1) ((i + cnt : Nat) : Int) x1 := by
      intro cnt x1 h1 h2
      unfold Packer_packLine_123 Math_max
      rw [w_nat (show cnt < 2147483648 by omega), show w32 1 = 1 from rfl]
      by_cases q : (1 : Int) < cnt
      · rw [if_pos q, g_bi_s, g_le_s, show (i : Int) + (cnt : Int) = ((i + cnt : Nat) : Int) by omega]
      · rw [if_neg q, g_bi_s, g_le_s, show (i : Int) + 1 = ((i + cnt : Nat) : Int) by omega]
    by_cases q : e - i ≤ 1
    · obtain ⟨e', f1, f2, f3, f4⟩ := apart_loop hb hp hy (K := M_line_76 (M_line_2L (N2 + d + 1))) hk.2.2.2.2.2 hx hi8 (8 - (i + 1)) (i + 1) (1000000000000 - (8 - (i + 1)) - 2) (1000000000000 - (8 - (i + 1)) - 1) (by omega) (by omega)
      rw [show 1000000000000 - (8 - (i + 1)) - 1 + (8 - (i + 1)) + 1 = gFu by show _ = 1000000000000; omega, show i + 1 - i = 1 by omega, show ((1 : Nat) : Int) = 1 from rfl] at f4
      have f3' : Packer_octetsApart i x = some (((e' - i : Nat) : Int), x) := by
        unfold Packer_octetsApart
        rw [show gFu = (1000000000000 - (8 - (i + 1)) - 2 + (8 - (i + 1)) + 1) + 1 by show 1000000000000 = _; omega]
        show Packer_octetsApart_2 (Packer_octetsApart_2L _) _ _ _ = _
        unfold Packer_octetsApart_2
        rw [w_nat (show i < 2147483648 by omega), if_neg (by omega), e3, g_bi_s, w_nat (show e - i < 2147483648 by omega), if_neg (by omega)]
        exact f3
      obtain ⟨x1, u1, a1, a2, a3, a4, a5, a6⟩ := add_both hk (by omega) ((e' - i : Nat) : Int)
      obtain ⟨x2, u2, g1, g2, g3, g4, g5, g6⟩ := copy_oct hb hp hy (K := Packer_packLine_123 (Packer_packLine_39L (N + d + 1))) (K2 := M_line_112 (M_line_2L (N2 + d + 1))) (i := i) (cnt := e' - i) (by omega) (e' - i) 0 (1000000000000 - (e' - i) - 1) (1000000000000 - (e' - i) - 1) (sz + 1) x1 u1 (by omega) a3 (by omega) (by rw [a4]; exact hx)
      rw [show 1000000000000 - (e' - i) - 1 + (e' - i) + 1 = gFu by show _ = 1000000000000; omega] at g1 g2
      obtain ⟨t, x3, u3, k1, k2, k3, k4, k5, k6⟩ := ih e' N N2 (sz + 1 + (e' - i)) x2 u2 (by omega) f2 g3 (by omega) (by rw [g4, a4]; exact hx)
      refine ⟨t, x3, u3, ?_, ?_, k3, by omega, fC_tr a5 (fC_tr g5 k5), fM_tr a6 (fM_tr g6 k6)⟩
      · show Packer_packLine_39 (Packer_packLine_39L (N + d + 1)) _ _ = _
        unfold Packer_packLine_39
        rw [w_nat (show i < 2147483648 by omega), if_neg (by omega), e3, g_bi_s, w_nat (show e - i < 2147483648 by omega), if_pos (by omega), f3', g_bi_s, a1, g_bi_s]
        rw [show i + 0 = i from rfl] at g1
        rw [g1, mx (e' - i) x2 (by omega) (by omega), show i + (e' - i) = e' by omega]
        exact k1
      · show M_line_2 (M_line_2L (N2 + d + 1)) _ _ _ _ = _
        unfold M_line_2
        rw [w_nat (show i < 2147483648 by omega), if_neg (by omega), e4, g_bi_s, w_nat (show e - i < 2147483648 by omega), if_pos (by omega), show ((e - i : Nat) : Int) = 1 by omega, f4]
        unfold M_line_76
        rw [a2, g_bi_s]
        rw [show ((0 : Nat) : Int) = 0 from rfl] at g2
        rw [g2]
        unfold M_line_112
        rw [g_le_s, show (i : Int) + ((e' - i : Nat) : Int) = (e' : Int) by omega]
        exact k2
    · obtain ⟨x1, u1, a1, a2, a3, a4, a5, a6⟩ := add_both hk (by omega) (128 + ((e - i : Nat) : Int))
      obtain ⟨x2, u2, b1, b2, b3, b4, b5, b6⟩ := add_both a3 (by omega) (oct (c 35 (48 * p + y)) i)
      obtain ⟨t, x3, u3, k1, k2, k3, k4, k5, k6⟩ := ih e N N2 (sz + 1 + 1) x2 u2 (by omega) e2 b3 (by omega) (by rw [b4, a4]; exact hx)
      refine ⟨t, x3, u3, ?_, ?_, k3, by omega, fC_tr a5 (fC_tr b5 k5), fM_tr a6 (fM_tr b6 k6)⟩
      · show Packer_packLine_39 (Packer_packLine_39L (N + d + 1)) _ _ = _
        unfold Packer_packLine_39
        rw [w_nat (show i < 2147483648 by omega), if_neg (by omega), e3, g_bi_s, w_nat (show e - i < 2147483648 by omega), if_neg (by omega), a1, g_bi_s, if_pos ⟨by omega, by omega⟩, Int.toNat_natCast, a4, hx i hi8, b1, g_bi_s, mx (e - i) x2 (by omega) (by omega), show i + (e - i) = e by omega]
        exact k1
      · show M_line_2 (M_line_2L (N2 + d + 1)) _ _ _ _ = _
        unfold M_line_2
        rw [w_nat (show i < 2147483648 by omega), if_neg (by omega), e4, g_bi_s, w_nat (show e - i < 2147483648 by omega), if_neg (by omega), a2, g_bi_s, byteU hb hp a3.2.2.2.2.2 hy hi8, g_bi_s, b2, g_bi_s]
        unfold M_line_112
        rw [g_le_s, show (i : Int) + ((e - i : Nat) : Int) = (e : Int) by omega]
        exact k2
end LI
end OC

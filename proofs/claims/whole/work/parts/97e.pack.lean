/-! band and octet -/
section PB
variable {p k b : Nat} {n : Int} {c m x u : gS} {sz : Nat}
theorem lnX (h34 : x 34 2 = k) (hk : k ≤ 8) (h35 : x 35 = c 35) (hp : p < k) {y : Nat} (hy : y < 48) (v : Int) (hv : v = y) : Pages_line p v x = some (c 35 (48 * p + y), x) := by
  subst hv
  unfold Pages_line Pages_isKept
  rw [w_nat (show y < 2147483648 by omega), if_neg (by omega), if_pos (show (y : Int) < 48 by omega), h34, w_nat (show k < 2147483648 by omega), w_nat (show p < 2147483648 by omega), if_neg (by omega), if_neg (by omega), g_bi_s, if_neg (show ¬ w32 1 = 0 by decide), show (p : Int) * 48 + y = ((48 * p + y : Nat) : Int) by omega, w_nat (show 48 * p + y < 2147483648 by omega), if_pos ⟨by omega, by omega⟩, Int.toNat_natCast, h35]
theorem alike_loop {K : Int → Int → Int → Int → gS → gA} (hb : BR (fun y => c 35 (48 * p + y)) (fun j => m 64 (3072 * p + j))) (hk8 : k ≤ 8) (hp : p < k) (hb6 : b < 6) (hk : PK c m sz x u) (hk2 : c 34 2 = k) {i : Nat} (hi : i < 8) {A : Int} : ∀ (d j N N2 : Nat), i + j + d = 8 → (d ≠ 0 → lu (prv c p (8 * b + (i + j))) = lu A) → ∃ e : Nat, j ≤ e ∧ i + e ≤ 8 ∧ Packer_linesAlike_30L (N + d + 1) p i ((8 * b : Nat) : Int) A ((i + j : Nat) : Int) x = some ((e : Int), x) ∧ M_pack_47L K (N2 + d + 1) p b ((8 * b + i : Nat) : Int) j u = K p b ((8 * b + i : Nat) : Int) e u := by
  intro d
  induction d with
  | zero =>
    intro j N N2 hj hA
    refine ⟨j, by omega, by omega, ?_, ?_⟩
    · show Packer_linesAlike_30 _ _ _ _ _ _ _ = _
      unfold Packer_linesAlike_30
      rw [w_nat (show i + j < 2147483648 by omega), if_pos (by omega), show ((i + j : Nat) : Int) - i = j by omega]
    · show M_pack_47 _ K _ _ _ _ _ = _
      unfold M_pack_47
      rw [show 8 * (b : Int) + 8 = ((8 * b + 8 : Nat) : Int) by omega, show ((8 * b + i : Nat) : Int) + j = ((8 * b + (i + j) : Nat) : Int) by omega, w_nat (show 8 * b + 8 < 2147483648 by omega), w_nat (show 8 * b + (i + j) < 2147483648 by omega), if_pos (by omega)]
  | succ d ih =>
    intro j N N2 hj hA
    have hA' := hA (by omega)
    have ab := aboveM hb (by omega : p < 8) hk.2.2.2.2.2 (y := 8 * b + (i + j)) (by omega)
    rw [hA'] at ab
    have ln := lnX (x := x) (k := k) (by rw [hk.2.2.2.2.1]; exact hk2) hk8 hk.2.2.2.1 hp (y := 8 * b + (i + j)) (by omega) (((8 * b : Nat) : Int) + ((i + j : Nat) : Int)) (by omega)
    have cm := cmp_lu (c 35 (48 * p + (8 * b + (i + j)))) A
    have eC : Packer_linesAlike_30L (N + (d + 1) + 1) p i ((8 * b : Nat) : Int) A ((i + j : Nat) : Int) x = if lu (c 35 (48 * p + (8 * b + (i + j)))) = lu A then Packer_linesAlike_30L (N + d + 1) p i ((8 * b : Nat) : Int) A ((i + (j + 1) : Nat) : Int) x else some ((j : Int), x) := by
      show Packer_linesAlike_30 (Packer_linesAlike_30L (N + d + 1)) _ _ _ _ _ _ = _
      unfold Packer_linesAlike_30
      rw [w_nat (show i + j < 2147483648 by omega), if_neg (by omega), ln, g_bi_s, show ((i + j : Nat) : Int) - i = j by omega, show ((i + j : Nat) : Int) + 1 = ((i + (j + 1) : Nat) : Int) by omega]
      by_cases q : lu (c 35 (48 * p + (8 * b + (i + j)))) = lu A
      · rw [if_pos (cm.2 q), if_pos q]
      · rw [if_neg (fun h => q (cm.1 h)), if_neg q]
    have eM : M_pack_47L K (N2 + (d + 1) + 1) p b ((8 * b + i : Nat) : Int) j u = if lu (c 35 (48 * p + (8 * b + (i + j)))) = lu A then M_pack_47L K (N2 + d + 1) p b ((8 * b + i : Nat) : Int) ((j + 1 : Nat) : Int) u else K p b ((8 * b + i : Nat) : Int) j u := by
      show M_pack_47 (M_pack_47L K (N2 + d + 1)) K _ _ _ _ _ = _
      unfold M_pack_47
      rw [show 8 * (b : Int) + 8 = ((8 * b + 8 : Nat) : Int) by omega, show ((8 * b + i : Nat) : Int) + j = ((8 * b + (i + j) : Nat) : Int) by omega, w_nat (show 8 * b + 8 < 2147483648 by omega), w_nat (show 8 * b + (i + j) < 2147483648 by omega), if_neg (by omega), ab, g_bi_s]
      by_cases q : lu (c 35 (48 * p + (8 * b + (i + j)))) = lu A
      · rw [if_pos q, if_pos q, if_neg (show ¬ w32 1 = 0 by decide)]
        rfl
      · rw [if_neg q, if_neg q, if_pos (show w32 0 = 0 from rfl)]
    rw [eC, eM]
    by_cases q : lu (c 35 (48 * p + (8 * b + (i + j)))) = lu A
    · rw [if_pos q, if_pos q]
      obtain ⟨e, k1, k2, k3, k4⟩ := ih (j + 1) N N2 (by omega) (fun hd => by
        unfold prv
        rw [if_neg (by omega), show 8 * b + (i + (j + 1)) - 1 = 8 * b + (i + j) by omega]
        exact q)
      exact ⟨e, by omega, k2, k3, k4⟩
    · rw [if_neg q, if_neg q]
      exact ⟨j, by omega, by omega, rfl, rfl⟩
theorem alikeC {K : Int → Int → Int → Int → gS → gA} (hb : BR (fun y => c 35 (48 * p + y)) (fun j => m 64 (3072 * p + j))) (hk8 : k ≤ 8) (hp : p < k) (hb6 : b < 6) (hk : PK c m sz x u) (hk2 : c 34 2 = k) {i : Nat} (hi : i < 8) : ∃ e : Nat, i + e ≤ 8 ∧ Packer_linesAlike p b i x = some ((e : Int), x) ∧ M_pack_47L K gFu p b ((8 * b + i : Nat) : Int) 0 u = K p b ((8 * b + i : Nat) : Int) e u := by
  have mod : (8 * b + i) % 8 = i := by omega
  obtain ⟨e, k1, k2, k3, k4⟩ := alike_loop (K := K) hb hk8 hp hb6 hk hk2 hi (A := prv c p (8 * b + i)) (8 - i) 0 (1000000000000 - (8 - i) - 1) (1000000000000 - (8 - i) - 1) (by omega) (fun _ => by rw [Nat.add_zero])
  rw [show 1000000000000 - (8 - i) - 1 + (8 - i) + 1 = gFu by show _ = 1000000000000; omega] at k3 k4
  rw [show i + 0 = i from rfl] at k3
  rw [show ((0 : Nat) : Int) = 0 from rfl] at k4
  refine ⟨e, k2, ?_, k4⟩
  unfold Packer_linesAlike Packer_linesAlike_25
  rw [g_le_s, show (b : Int) * 8 = ((8 * b : Nat) : Int) by omega, w_nat (show i < 2147483648 by omega)]
  by_cases z : i = 0
  · rw [if_pos (by omega)]
    have : prv c p (8 * b + i) = 0 := by unfold prv; rw [if_pos (by omega)]
    rw [this] at k3
    exact k3
  · rw [if_neg (by omega)]
    have e2 : prv c p (8 * b + i) = c 35 (48 * p + (8 * b + i - 1)) := by unfold prv; rw [if_neg (by omega)]
    rw [e2] at k3
    rw [lnX (x := x) (k := k) (by rw [hk.2.2.2.2.1]; exact hk2) hk8 hk.2.2.2.1 hp (y := 8 * b + i - 1) (by omega) (((8 * b : Nat) : Int) + (i : Int) - 1) (by omega), g_bi_s]
    exact k3
theorem pack_loop (hb : BR (fun y => c 35 (48 * p + y)) (fun j => m 64 (3072 * p + j))) (hk8 : k ≤ 8) (hp : p < k) (hb6 : b < 6) (hk2 : c 34 2 = k) : ∀ (d i N N2 sz : Nat) (x u : gS), 8 - i ≤ d → i ≤ 8 → PK c m sz x u → sz ≤ 16 * i → ∃ (t : Nat) (x' u' : gS), Packer_pack_11L (N + d + 1) p b i x = some (0, x') ∧ M_pack_33L (N2 + d + 1) p b ((8 * b + i : Nat) : Int) u = some (1, u') ∧ PK c m t x' u' ∧ t ≤ 128 ∧ fC kC x x' ∧ fM kM u u' := by
  have stop : ∀ (N N2 sz : Nat) (x u : gS), PK c m sz x u → sz ≤ 128 → ∃ (t : Nat) (x' u' : gS), Packer_pack_11L (N + 1) p b ((8 : Nat) : Int) x = some (0, x') ∧ M_pack_33L (N2 + 1) p b ((8 * b + 8 : Nat) : Int) u = some (1, u') ∧ PK c m t x' u' ∧ t ≤ 128 ∧ fC kC x x' ∧ fM kM u u' := by
    intro N N2 sz x u hk hs
    refine ⟨sz, x, u, ?_, ?_, hk, hs, fC_rf _ _, fM_rf _ _⟩
    · show Packer_pack_11 _ _ _ _ _ = _
      unfold Packer_pack_11
      rw [if_pos (by decide)]
    · show M_pack_33 _ _ _ _ _ = _
      unfold M_pack_33
      rw [show 8 * (b : Int) + 8 = ((8 * b + 8 : Nat) : Int) by omega, if_pos (Int.le_refl _)]
  intro d
  induction d with
  | zero =>
    intro i N N2 sz x u hd hi hk hs
    have : i = 8 := by omega
    subst this
    exact stop (N + 0) (N2 + 0) sz x u hk (by omega)
  | succ d ih =>
    intro i N N2 sz x u hd hi hk hs
    rcases (show i = 8 ∨ i < 8 by omega) with rfl | hi8
    · exact stop (N + (d + 1)) (N2 + (d + 1)) sz x u hk (by omega)
    obtain ⟨e, e1, e2, e3⟩ := alikeC (K := M_pack_79 (M_pack_33L (N2 + d + 1))) hb hk8 hp hb6 hk hk2 hi8
    have eM : M_pack_33L (N2 + (d + 1) + 1) p b ((8 * b + i : Nat) : Int) u = M_pack_79 (M_pack_33L (N2 + d + 1)) p b ((8 * b + i : Nat) : Int) e u := by
      show M_pack_33 (M_pack_33L (N2 + d + 1)) _ _ _ _ = _
      unfold M_pack_33
      rw [show 8 * (b : Int) + 8 = ((8 * b + 8 : Nat) : Int) by omega, w_nat (show 8 * b + 8 < 2147483648 by omega), w_nat (show 8 * b + i < 2147483648 by omega), if_neg (by omega)]
      exact e3
    rw [eM]
    by_cases z : e = 0
    · obtain ⟨t, x1, u1, a1, a2, a3, a4, a5, a6⟩ := lineP (y := 8 * b + i) hb (by omega) (by omega) hk (by omega)
      obtain ⟨t', x', u', i1, i2, i3, i4, i5, i6⟩ := ih (i + 1) N N2 t x1 u1 (by omega) (by omega) a3 (by omega)
      refine ⟨t', x', u', ?_, ?_, i3, i4, fC_tr a5 i5, fM_tr a6 i6⟩
      · show Packer_pack_11 (Packer_pack_11L (N + d + 1)) _ _ _ _ = _
        unfold Packer_pack_11 Packer_pack_62 Math_max
        rw [w_nat (show i < 2147483648 by omega), if_neg (by omega), e2, g_bi_s, z, if_pos (by decide), lnX (x := x) (k := k) (by rw [hk.2.2.2.2.1]; exact hk2) hk8 hk.2.2.2.1 hp (y := 8 * b + i) (by omega) ((b : Int) * 8 + i) (by omega), g_bi_s, a1, g_bi_s, if_neg (by decide), g_bi_s, g_le_s, show (i : Int) + 1 = ((i + 1 : Nat) : Int) by omega]
        exact i1
      · unfold M_pack_79 M_pack_103 M_pack_115
        rw [z, if_pos (by decide), a2, g_bi_s, if_pos (by decide), g_le_s, show ((8 * b + i : Nat) : Int) + 1 = ((8 * b + (i + 1) : Nat) : Int) by omega]
        exact i2
    · obtain ⟨x1, u1, a1, a2, a3, a4, a5, a6⟩ := add_both hk (by omega) (192 + (e : Int))
      obtain ⟨t', x', u', i1, i2, i3, i4, i5, i6⟩ := ih (i + e) N N2 (sz + 1) x1 u1 (by omega) e1 a3 (by omega)
      refine ⟨t', x', u', ?_, ?_, i3, i4, fC_tr a5 i5, fM_tr a6 i6⟩
      · show Packer_pack_11 (Packer_pack_11L (N + d + 1)) _ _ _ _ = _
        unfold Packer_pack_11 Packer_pack_62 Math_max
        rw [w_nat (show i < 2147483648 by omega), if_neg (by omega), e2, g_bi_s, w_nat (show e < 2147483648 by omega), if_neg (by omega), a1, g_bi_s, show w32 1 = 1 from rfl]
        by_cases y : (1 : Int) < e
        · rw [if_pos y, g_bi_s, g_le_s, show (i : Int) + (e : Int) = ((i + e : Nat) : Int) by omega]
          exact i1
        · rw [if_neg y, g_bi_s, g_le_s, show (i : Int) + 1 = ((i + e : Nat) : Int) by omega]
          exact i1
      · unfold M_pack_79 M_pack_103 M_pack_115
        rw [w_nat (show e < 2147483648 by omega), if_neg (by omega), a2, g_bi_s, if_neg (by omega), g_le_s, show ((8 * b + i : Nat) : Int) + (e : Int) = ((8 * b + (i + e) : Nat) : Int) by omega]
        exact i2
theorem RA_k {c' m' : gS} (f1 : fC kC c c') (f2 : fM (fun q k => kM q k || (decide (q = 49) && decide (k = 0))) m m') (h : RA n c m) : RA n c' m' := by
  refine ⟨RP_congr (fun q hq => f1 q ?_) (fun q k hq => f2 q k ?_) h.1, JT_congr (f1 1 rfl) (f1 2 rfl) (f2 49 3 rfl) (funext fun j => f2 50 j rfl) h.2.1, RH_congr (fun q a b => f1 q ?_) (fun k a b => f2 49 k ?_) (fun q a b => funext fun j => f2 q j ?_) h.2.2⟩
  · unfold pcC at hq
    unfold kC
    simp only [Bool.and_eq_true, decide_eq_true_eq] at hq
    simp only [Bool.and_eq_false_iff, decide_eq_false_iff_not]
    omega
  · show (kM q k || (decide (q = 49) && decide (k = 0))) = false
    unfold ruM at hq
    unfold kM
    simp only [Bool.or_eq_true, Bool.and_eq_true, decide_eq_true_eq] at hq
    simp only [Bool.or_eq_false_iff, Bool.and_eq_false_iff, decide_eq_false_iff_not]
    omega
  · unfold kC
    simp only [Bool.and_eq_false_iff, decide_eq_false_iff_not]
    omega
  · show (kM 49 k || (decide (49 = 49) && decide (k = 0))) = false
    unfold kM
    simp only [Bool.or_eq_false_iff, Bool.and_eq_false_iff, decide_eq_false_iff_not]
    omega
  · show (kM q j || (decide (q = 49) && decide (j = 0))) = false
    unfold kM
    simp only [Bool.or_eq_false_iff, Bool.and_eq_false_iff, decide_eq_false_iff_not]
    omega
/-- both pack, or neither -/
theorem pack_both {a d : Int} (ha : w32 a = a) (hd : w32 d = d) (h : RA n c m) : (¬ (0 ≤ a ∧ 0 ≤ d ∧ d ≤ 5 ∧ Pages_isKept a c = some (1, c)) ∧ M_pack a d (g_up m 49 0 0) = some (0, g_up m 49 0 0) ∧ (Pages_isKept a c = some (0, c) ∨ (Pages_isKept a c = some (1, c) ∧ (d < 0 ∨ 6 ≤ d)))) ∨ (Pages_isKept a c = some (1, c) ∧ 0 ≤ d ∧ d < 6 ∧ ∃ (t : Nat) (c' m' : gS), Packer_pack a d c = some (0, c') ∧ M_pack a d (g_up m 49 0 0) = some (1, m') ∧ PK c m t c' m' ∧ t ≤ 128 ∧ m' 49 0 = 0 ∧ RA n c' m') := by
  obtain ⟨hP, hT, L, hs, hrq, -⟩ := id h
  obtain ⟨-, -, -, -, ⟨k, hg⟩, -⟩ := hrq.pc
  have hk := hg.1
  have eK : Pages_isKept a c = some (if 0 ≤ a ∧ a < k then 1 else 0, c) := by
    unfold Pages_isKept
    rw [ha, hg.2.1, w_nat (show k < 2147483648 by omega)]
    by_cases x1 : a < 0
    · rw [if_pos x1, if_neg (by omega)]
    · rw [if_neg x1]
      by_cases x2 : (k : Int) ≤ a
      · rw [if_pos x2, if_neg (by omega)]
      · rw [if_neg x2, if_pos (by omega)]
  have eM : M_pack a d (g_up m 49 0 0) = if 0 ≤ a ∧ a < k ∧ 0 ≤ d ∧ d ≤ 5 then M_pack_33L gFu a d (8 * d) (g_up (g_up m 49 0 0) 49 39 0) else some (0, g_up m 49 0 0) := by
    unfold M_pack
    rw [ha, hd, up_n (show ¬ (49 = 49 ∧ 8 = 0) by decide), hg.2.2.1, w_nat (show k < 2147483648 by omega)]
    by_cases x1 : a < 0
    · rw [if_pos x1, if_neg (by omega)]
    rw [if_neg x1]
    by_cases x2 : (k : Int) ≤ a
    · rw [if_pos x2, if_neg (by omega)]
    rw [if_neg x2]
    by_cases x3 : d < 0
    · rw [if_pos x3, if_neg (by omega)]
    rw [if_neg x3]
    by_cases x4 : d ≤ 5
    · rw [if_pos x4, if_pos (by omega), g_le_s, g_le_s]
    · rw [if_neg x4, if_neg (by omega)]
  rw [eK, eM]
  by_cases q : 0 ≤ a ∧ a < k ∧ 0 ≤ d ∧ d ≤ 5
  · refine Or.inr ⟨by rw [if_pos ⟨q.1, q.2.1⟩], q.2.2.1, by omega, ?_⟩
    obtain ⟨p, rfl⟩ : ∃ p : Nat, a = p := ⟨a.toNat, by omega⟩
    obtain ⟨b, rfl⟩ : ∃ b : Nat, d = b := ⟨d.toNat, by omega⟩
    have hb := hg.2.2.2.2.2.2.2 p (by omega)
    have pk0 : PK c m 0 (g_up c 46 1 0) (g_up (g_up m 49 0 0) 49 39 0) := ⟨by rw [up_y]; rfl, by rw [up_y]; rfl, fun i hi => by omega, g_up_ne (by decide), g_up_ne (by decide), by rw [g_up_ne (by decide), g_up_ne (by decide)]⟩
    obtain ⟨t, c', m', i1, i2, i3, i4, i5, i6⟩ := pack_loop (p := p) (b := b) hb hk (by omega) (by omega) hg.2.1 8 0 (1000000000000 - 9) (1000000000000 - 9) 0 _ _ (by omega) (by omega) pk0 (by omega)
    rw [show 1000000000000 - 9 + 8 + 1 = gFu from rfl] at i1 i2
    rw [show ((0 : Nat) : Int) = 0 from rfl] at i1
    rw [show ((8 * b + 0 : Nat) : Int) = 8 * (b : Int) by omega] at i2
    refine ⟨t, c', m', ?_, ?_, i3, i4, by rw [i6 49 0 rfl, up_n (by decide), up_y], RA_k (fC_tr (fC_up rfl) i5) (fM_tr (fM_up rfl) (fM_tr (fM_up rfl) (fM_mono (fun q k y => by rw [y, Bool.true_or]) i6))) h⟩
    · unfold Packer_pack
      rw [g_le_s]
      exact i1
    · rw [if_pos q]
      exact i2
  · refine Or.inl ⟨fun y => ?_, by rw [if_neg q], ?_⟩
    · have y2 := congrArg Prod.fst (Option.some.inj y.2.2.2)
      have y3 : (if 0 ≤ a ∧ a < (k : Int) then (1 : Int) else 0) = 1 := y2
      by_cases z : 0 ≤ a ∧ a < (k : Int)
      · exact q ⟨z.1, z.2, y.2.1, y.2.2.1⟩
      · rw [if_neg z] at y3; cases y3
    · by_cases z : 0 ≤ a ∧ a < (k : Int)
      · exact Or.inr ⟨by rw [if_pos z], by omega⟩
      · exact Or.inl (by rw [if_neg z])
theorem op_band {a d : Int} (ha : w32 a = a) (hd : w32 d = d) (h : RA n c m) : ∃ (z z' : Int) (c' m' : gS), B_band a d c = some (z, c') ∧ M_band a d m = some (z', m') ∧ z = z' ∧ RA n c' m' := by
  unfold B_band M_band
  rw [g_le_s, hd]
  rcases pack_both ha hd h with ⟨-, e2, e3⟩ | ⟨e1, e2, e3, t, c', m', e4, e5, e6, e7, e8, e9⟩
  · rw [e2, g_bi_s, if_pos (by decide)]
    rcases e3 with e | ⟨e, f⟩
    · rw [e, g_bi_s, if_pos (by decide)]
      exact ⟨_, _, _, _, rfl, rfl, rfl, RA_code h⟩
    · rw [e, g_bi_s, if_neg (by decide)]
      rcases f with f | f
      · rw [if_pos f]; exact ⟨_, _, _, _, rfl, rfl, rfl, RA_code h⟩
      · rw [if_neg (by omega), if_neg (by omega)]; exact ⟨_, _, _, _, rfl, rfl, rfl, RA_code h⟩
  · rw [e1, g_bi_s, if_neg (by decide), if_neg (by omega), if_pos e3, e4, g_bi_s, e5, g_bi_s, if_neg (by decide)]
    exact ⟨_, _, _, _, rfl, rfl, by rw [e6.1, e6.2.1], e9⟩
theorem op_octet {a d i : Int} (ha : w32 a = a) (hd : w32 d = d) (hi : w32 i = i) (h : RA n c m) : ∃ (z z' : Int) (c' m' : gS), B_octet a d i c = some (z, c') ∧ M_octet a d i m = some (z', m') ∧ z = z' ∧ RA n c' m' := by
  unfold B_octet M_octet
  rw [g_le_s, hd, hi]
  rcases pack_both ha hd h with ⟨-, e2, e3⟩ | ⟨e1, e2, e3, t, c', m', e4, e5, e6, e7, e8, e9⟩
  · rw [e2, g_bi_s, if_pos (by decide)]
    rcases e3 with e | ⟨e, f⟩
    · rw [e, g_bi_s, if_pos (by decide)]
      exact ⟨_, _, _, _, rfl, rfl, rfl, RA_code h⟩
    · rw [e, g_bi_s, if_neg (by decide)]
      rcases f with f | f
      · rw [if_pos f]; exact ⟨_, _, _, _, rfl, rfl, rfl, RA_code h⟩
      · rw [if_neg (by omega), if_neg (by omega)]; exact ⟨_, _, _, _, rfl, rfl, rfl, RA_code h⟩
  · rw [e1, g_bi_s, if_neg (by decide), if_neg (by omega), if_pos e3, e4, g_bi_s, e5, g_bi_s, if_neg (show ¬ w32 1 = 0 by decide), e6.1, e6.2.1, w_nat (show t < 2147483648 by omega)]
    by_cases x1 : i < 0
    · rw [if_pos x1, if_pos x1]; exact ⟨_, _, _, _, rfl, rfl, rfl, e9⟩
    rw [if_neg x1, if_neg x1]
    by_cases x2 : i < t
    · rw [if_pos x2, if_neg (show ¬ (t : Int) ≤ i by omega), if_pos ⟨by omega, by omega⟩, if_pos ⟨by omega, by omega⟩]
      exact ⟨_, _, _, _, rfl, rfl, e6.2.2.1 i.toNat (by omega), e9⟩
    · rw [if_neg x2, if_pos (show (t : Int) ≤ i by omega)]; exact ⟨_, _, _, _, rfl, rfl, rfl, e9⟩
end PB

/-! lines of a band, packed -/
section LN
variable {p : Nat} {c m x u : gS} {sz : Nat}
theorem oct_loop {K : gS → gA} {r : Int} : ∀ (d i N : Nat) (x : gS), i + d = 8 → (∀ j, j < i → x 48 j = oct r j) → ∃ x', Packer_packLine_2L K (N + d + 1) r i x = K x' ∧ (∀ j, j < 8 → x' 48 j = oct r j) ∧ ∀ q, q ≠ 48 → x' q = x q := by
  intro d
  induction d with
  | zero =>
    intro i N x hi h
    refine ⟨x, ?_, fun j hj => h j (by omega), fun _ _ => rfl⟩
    show Packer_packLine_2 _ K _ _ _ = _
    unfold Packer_packLine_2
    rw [show i = 8 by omega, if_pos (by decide)]
  | succ d ih =>
    intro i N x hi h
    obtain ⟨x', i1, i2, i3⟩ := ih (i + 1) N (g_up x 48 i (oct r i)) (by omega) (fun j hj => by
      rcases (show j = i ∨ j < i by omega) with rfl | q
      · exact up_y
      · rw [up_n (by omega)]; exact h j q)
    refine ⟨x', ?_, i2, fun q hq => by rw [i3 q hq, g_up_ne hq]⟩
    show Packer_packLine_2 (Packer_packLine_2L K (N + d + 1)) K _ _ _ = _
    unfold Packer_packLine_2
    have bu := byt_u r (k := 7 - i) (by omega)
    rw [show ((7 - i : Nat) : Int) = 7 - (i : Int) by omega] at bu
    rw [w_nat (show i < 2147483648 by omega), if_neg (by omega), if_pos ⟨by omega, by omega⟩, g_le_s, Int.toNat_natCast, bu]
    exact i1
theorem lineP {y : Nat} (hb : BR (fun y => c 35 (48 * p + y)) (fun j => m 64 (3072 * p + j))) (hp : p < 8) (hy : y < 48) (hk : PK c m sz x u) (hs : sz + 16 ≤ 128) : ∃ (t : Nat) (x' u' : gS), Packer_packLine (c 35 (48 * p + y)) x = some (0, x') ∧ M_line p y u = some (0, u') ∧ PK c m t x' u' ∧ t ≤ sz + 16 ∧ fC kC x x' ∧ fM kM u u' := by
  obtain ⟨x1, a1, a2, a3⟩ := oct_loop (K := Packer_packLine_34) (r := c 35 (48 * p + y)) 8 0 (1000000000000 - 9) x (by omega) (fun j hj => by omega)
  rw [show 1000000000000 - 9 + 8 + 1 = gFu from rfl, show ((0 : Nat) : Int) = 0 from rfl] at a1
  have hk1 : PK c m sz x1 u := ⟨by rw [a3 46 (by decide)]; exact hk.1, hk.2.1, by rw [a3 47 (by decide)]; exact hk.2.2.1, by rw [a3 35 (by decide)]; exact hk.2.2.2.1, by rw [a3 34 (by decide)]; exact hk.2.2.2.2.1, hk.2.2.2.2.2⟩
  obtain ⟨t, x', u', b1, b2, b3, b4, b5, b6⟩ := line_loop hb hp hy 8 0 (1000000000000 - 9) (1000000000000 - 9) sz x1 u (by omega) (by omega) hk1 (by omega) a2
  rw [show 1000000000000 - 9 + 8 + 1 = gFu from rfl, show ((0 : Nat) : Int) = 0 from rfl] at b1 b2
  refine ⟨t, x', u', ?_, b2, b3, by omega, fC_tr (fun q hq => a3 q (fun e => by rw [e] at hq; cases hq)) b5, b6⟩
  unfold Packer_packLine
  rw [a1]
  unfold Packer_packLine_34
  exact b1
/-- the line before, or a white one -/
def prv (c : gS) (p y : Nat) : Int := if y % 8 = 0 then 0 else c 35 (48 * p + (y - 1))
theorem oct_0 (i : Nat) : oct 0 i = 0 := by
  unfold oct byt
  rw [show lu 0 = 0 from rfl, Nat.zero_div]
  rfl
theorem above_loop (hb : BR (fun y => c 35 (48 * p + y)) (fun j => m 64 (3072 * p + j))) (hp : p < 8) (hu : u 64 = m 64) {y : Nat} (hy : y < 48) : ∀ (d i N : Nat), i + d = 8 → ((∀ j, i ≤ j → j < 8 → oct (c 35 (48 * p + y)) j = oct (prv c p y) j) → M_isLikeAbove_5L (N + d + 1) p y 1 i u = some (1, u)) ∧ ((∃ j, i ≤ j ∧ j < 8 ∧ oct (c 35 (48 * p + y)) j ≠ oct (prv c p y) j) → M_isLikeAbove_5L (N + d + 1) p y 1 i u = some (0, u)) ∧ M_isLikeAbove_5L (N + d + 1) p y 0 i u = some (0, u) := by
  intro d
  induction d with
  | zero =>
    intro i N hi
    have e8 : i = 8 := by omega
    subst e8
    have e : ∀ v : Int, v = 0 ∨ v = 1 → M_isLikeAbove_5L (N + 0 + 1) p y v ((8 : Nat) : Int) u = some (v, u) := by
      intro v hv
      show M_isLikeAbove_5 _ _ _ _ _ _ = _
      unfold M_isLikeAbove_5
      rw [if_pos (by decide), if_pos (by rw [w32_01 hv]; exact hv)]
    exact ⟨fun _ => e 1 (Or.inr rfl), fun ⟨j, j1, j2, _⟩ => by omega, e 0 (Or.inl rfl)⟩
  | succ d ih =>
    intro i N hi
    obtain ⟨k1, k2, k3⟩ := ih (i + 1) N (by omega)
    have o1 := oct_bd (c 35 (48 * p + y)) i
    have o2 := oct_bd (prv c p y) i
    have z0 : M_isLikeAbove_5L (N + (d + 1) + 1) p y 0 i u = some (0, u) := by
      show M_isLikeAbove_5 (M_isLikeAbove_5L (N + d + 1)) _ _ _ _ _ = _
      unfold M_isLikeAbove_5 M_isLikeAbove_52 M_isLikeAbove_53
      rw [w_nat (show i < 2147483648 by omega), if_neg (by omega), if_pos (by decide), show (i : Int) + 1 = ((i + 1 : Nat) : Int) by omega]
      exact k3
    have z1 : M_isLikeAbove_5L (N + (d + 1) + 1) p y 1 i u = if oct (c 35 (48 * p + y)) i = oct (prv c p y) i then M_isLikeAbove_5L (N + d + 1) p y 1 ((i + 1 : Nat) : Int) u else M_isLikeAbove_5L (N + d + 1) p y 0 ((i + 1 : Nat) : Int) u := by
      show M_isLikeAbove_5 (M_isLikeAbove_5L (N + d + 1)) _ _ _ _ _ = _
      have e45 : M_isLikeAbove_45 (M_isLikeAbove_5L (N + d + 1)) p y i (oct (c 35 (48 * p + y)) i) (oct (prv c p y) i) u = if oct (c 35 (48 * p + y)) i = oct (prv c p y) i then M_isLikeAbove_5L (N + d + 1) p y 1 ((i + 1 : Nat) : Int) u else M_isLikeAbove_5L (N + d + 1) p y 0 ((i + 1 : Nat) : Int) u := by
        unfold M_isLikeAbove_45 M_isLikeAbove_52 M_isLikeAbove_53
        rw [w32_id (z := oct (c 35 (48 * p + y)) i) (by omega) (by omega), w32_id (z := oct (prv c p y) i) (by omega) (by omega)]
        rfl
      rw [← e45]
      unfold M_isLikeAbove_5
      rw [w_nat (show i < 2147483648 by omega), if_neg (by omega), if_neg (by decide), byteU hb hp hu hy (by omega), g_bi_s, i_rem_nn (by omega) (by omega) (by decide) (by decide), show (y : Int) % 8 = ((y % 8 : Nat) : Int) by omega, w_nat (show y % 8 < 2147483648 by omega)]
      by_cases e : y % 8 = 0
      · have ep : prv c p y = 0 := by unfold prv; rw [if_pos e]
        rw [if_pos (by omega), ep, oct_0]
      · have ep : prv c p y = c 35 (48 * p + (y - 1)) := by unfold prv; rw [if_neg e]
        rw [if_neg (by omega), show (y : Int) - 1 = ((y - 1 : Nat) : Int) by omega, byteU hb hp hu (y := y - 1) (by omega) (by omega), g_bi_s, ep]
    refine ⟨fun h => ?_, fun ⟨j, j1, j2, j3⟩ => ?_, z0⟩
    · rw [z1, if_pos (h i (by omega) (by omega))]
      exact k1 fun j a b => h j (by omega) b
    · rw [z1]
      by_cases q : oct (c 35 (48 * p + y)) i = oct (prv c p y) i
      · rw [if_pos q]
        refine k2 ⟨j, ?_, j2, j3⟩
        rcases (show j = i ∨ i + 1 ≤ j by omega) with rfl | w
        · exact absurd q j3
        · exact w
      · rw [if_neg q]
        exact k3
theorem aboveM (hb : BR (fun y => c 35 (48 * p + y)) (fun j => m 64 (3072 * p + j))) (hp : p < 8) (hu : u 64 = m 64) {y : Nat} (hy : y < 48) : M_isLikeAbove p y u = some (if lu (c 35 (48 * p + y)) = lu (prv c p y) then 1 else 0, u) := by
  obtain ⟨k1, k2, -⟩ := above_loop hb hp hu hy 8 0 (1000000000000 - 9) (by omega)
  rw [show 1000000000000 - 9 + 8 + 1 = gFu from rfl, show ((0 : Nat) : Int) = 0 from rfl] at k1 k2
  unfold M_isLikeAbove
  by_cases e : lu (c 35 (48 * p + y)) = lu (prv c p y)
  · rw [if_pos e]
    exact k1 fun j _ _ => lu_oct e j
  · rw [if_neg e]
    refine k2 (Classical.byContradiction fun h => e (oct_eq fun i hi => Classical.byContradiction fun h2 => h ⟨i, by omega, hi, h2⟩))
end LN

/-! lines of the page, pixel by pixel -/
theorem i_and1 (z : Int) : i_and z 1 = z % 2 := by
  unfold i_and
  show (BitVec.ofInt 32 z &&& 1#32).toInt = _
  have e : (BitVec.ofInt 32 z &&& 1#32).toNat = lu z % 2 := by
    rw [BitVec.toNat_and, show (1#32).toNat = 2 ^ 1 - 1 from rfl, Nat.and_two_pow_sub_one_eq_mod, BitVec.toNat_ofInt]
    have h1 := lu_val z
    show (z % 4294967296).toNat % 2 = _
    omega
  have h1 := lu_val z
  rw [BitVec.toInt_eq_toNat_of_lt (by rw [e]; show 2 * (lu z % 2) < 4294967296; omega), e]
  omega
theorem lb_0 (k : Nat) : lb 0 k = false := by
  show (0#64).getLsbD k = false
  exact BitVec.getLsbD_zero
theorem lb_1 (k : Nat) : lb 1 k = decide (k = 0) := by
  show (BitVec.ofInt 64 1).getLsbD k = _
  rw [show BitVec.ofInt 64 1 = 1#64 by decide, BitVec.getLsbD_one]
  simp
theorem lb_shl (x : Int) {k : Nat} (hk : k < 64) : lb (l_shl x 1) k = (!decide (k < 1) && lb x (k - 1)) := by
  unfold lb
  rw [show (1 : Int) = ((1 : Nat) : Int) from rfl, lB_shl x (by decide), BitVec.getLsbD_shiftLeft, decide_eq_true hk, Bool.true_and]
theorem lb_app (x : Int) (b : Bool) : lb (l_or (l_shl x 1) (if b then 1 else 0)) 0 = b ∧ ∀ j, j + 1 < 64 → lb (l_or (l_shl x 1) (if b then 1 else 0)) (j + 1) = lb x j := by
  constructor
  · rw [lb_or, lb_shl x (by decide)]
    cases b with
    | false => rw [if_neg (by decide), lb_0]; rfl
    | true => rw [if_pos rfl, lb_1]; rfl
  · intro j hj
    rw [lb_or, lb_shl x hj, decide_eq_false (by omega), show j + 1 - 1 = j by omega]
    cases b with
    | false => rw [if_neg (by decide), lb_0]; simp
    | true => rw [if_pos rfl, lb_1, decide_eq_false (by omega)]; simp
def inB (odd S : Int) : Bool := if odd = 0 then decide (S ≠ 0) else decide (S % 2 = 1)
theorem isI_inB (X Y B : Nat → Int) (n : Nat) (odd cx cy : Int) : isI X Y B n odd cx cy = inB odd (sm X Y B n cx cy n) := rfl
section TR
variable {n : Nat} {X Y B T : Nat → Int} {c c' m : gS} {odd : Int}
theorem sw_step {K : Int → Int → Int → Int → gS → gA} {row sum : Int} {x : Nat} (ho : odd = 0 ∨ odd = 1) (hx : x < 64) (h1 : -1000 ≤ sum + c 17 x) (h2 : sum + c 17 x ≤ 1000) : Filler_sweep_8 K odd row sum x c = K odd (l_or (l_shl row 1) (if inB odd (sum + c 17 x) then 1 else 0)) (sum + c 17 x) ((x + 1 : Nat) : Int) (g_up c 17 x 0) := by
  have bx : (0 : Int) ≤ (x : Int) ∧ (x : Int) < 64 := ⟨by omega, by omega⟩
  unfold Filler_sweep_8 Filler_sweep_64 Filler_sweep_79
  rw [w_nat (by omega), if_neg (by omega), if_pos bx, g_le_s, if_pos bx, g_le_s, Int.toNat_natCast, w32_01 ho, i_and1]
  have z0 : w32 (0 : Int) = 0 := rfl
  have z1 : ¬ w32 (1 : Int) = 0 := by decide
  unfold inB
  by_cases e : odd = 0
  · rw [if_pos e, if_pos e, w32_id (z := sum + c 17 x) (by omega) (by omega)]
    by_cases e2 : sum + c 17 x = 0
    · rw [if_pos e2, if_pos z0, g_le_s, decide_eq_false (fun q => q e2)]
      rfl
    · rw [if_neg e2, if_neg z1, g_le_s, decide_eq_true e2]
      rfl
  · rw [if_neg e, if_neg e, w32_id (z := (sum + c 17 x) % 2) (by omega) (by omega)]
    by_cases e2 : (sum + c 17 x) % 2 = 0
    · rw [if_pos e2, if_pos z0, g_le_s, decide_eq_false (by omega)]
      rfl
    · rw [if_neg e2, if_neg z1, g_le_s, decide_eq_true (by omega)]
      rfl
theorem sw_loop (ho : odd = 0 ∨ odd = 1) (hT : ∀ j, j < 64 → -1000 ≤ cum T (j + 1) ∧ cum T (j + 1) ≤ 1000) : ∀ (d x N : Nat) (row sum : Int) (c : gS), x + d = 64 → (∀ j, x ≤ j → j < 64 → c 17 j = T j) → (∀ j, j < x → c 17 j = 0) → sum = cum T x → (∀ j, j < x → lb row (x - 1 - j) = inB odd (cum T (j + 1))) → ∃ (row' : Int) (c' : gS), Filler_sweep_8L (N + d + 1) odd row sum x c = some (row', c') ∧ (∀ j, j < 64 → lb row' (63 - j) = inB odd (cum T (j + 1))) ∧ (∀ j, j < 64 → c' 17 j = 0) ∧ fC t7 c c' := by
  intro d
  induction d with
  | zero =>
    intro x N row sum c hx hc hz hs hb
    have : x = 64 := by omega
    subst this
    refine ⟨row, c, ?_, fun j hj => hb j hj, hz, fC_rf _ _⟩
    show Filler_sweep_8 _ _ _ _ _ _ = _
    unfold Filler_sweep_8
    rw [if_pos (by decide)]
  | succ d ih =>
    intro x N row sum c hx hc hz hs hb
    have hcx := hc x (Nat.le_refl x) (by omega)
    have hTx := hT x (by omega)
    have e : sum + c 17 x = cum T (x + 1) := by rw [hcx, hs]; rfl
    obtain ⟨a0, a1⟩ := lb_app row (inB odd (sum + c 17 x))
    obtain ⟨row', c', i1, i2, i3, i4⟩ := ih (x + 1) N (l_or (l_shl row 1) (if inB odd (sum + c 17 x) then 1 else 0)) (sum + c 17 x) (g_up c 17 x 0) (by omega) (fun j j1 j2 => by rw [up_n (by omega)]; exact hc j (by omega) j2) (fun j hj => by
      rcases (show j = x ∨ j < x by omega) with rfl | q
      · exact up_y
      · rw [up_n (by omega)]; exact hz j q) e (fun j hj => by
      rcases (show j = x ∨ j < x by omega) with rfl | q
      · rw [show j + 1 - 1 - j = 0 by omega, a0, e]
      · rw [show x + 1 - 1 - j = (x - 1 - j) + 1 by omega, a1 _ (by omega)]
        exact hb j q)
    refine ⟨row', c', ?_, i2, i3, fC_tr (fC_up rfl) i4⟩
    show Filler_sweep_8 (Filler_sweep_8L (N + d + 1)) _ _ _ _ _ = _
    rw [sw_step ho (by omega) (by omega) (by omega)]
    exact i1
theorem sweep_is (ho : odd = 0 ∨ odd = 1) (hT : ∀ j, j < 64 → -1000 ≤ cum (c 17) (j + 1) ∧ cum (c 17) (j + 1) ≤ 1000) : ∃ (row' : Int) (c' : gS), Filler_sweep odd c = some (row', c') ∧ (∀ j, j < 64 → lb row' (63 - j) = inB odd (cum (c 17) (j + 1))) ∧ (∀ j, j < 64 → c' 17 j = 0) ∧ fC t7 c c' := by
  have := sw_loop (T := c 17) ho hT 64 0 (1000000000000 - 65) 0 0 c (by omega) (fun j _ _ => rfl) (fun j hj => by omega) rfl (fun j hj => by omega)
  rw [show 1000000000000 - 65 + 64 + 1 = gFu from rfl] at this
  exact this
def TRd (X Y B : Nat → Int) (n : Nat) (odd : Int) (c : gS) (k : Nat) : Prop := ∀ y, y < k → ∀ x, x < 64 → lb (c 16 y) (63 - x) = isI X Y B n odd (4 * (x : Int) + 2) (4 * (y : Int) + 2)
theorem tr_loop (ho : odd = 0 ∨ odd = 1) : ∀ (d y N : Nat) (c : gS), y + d = 48 → PD n X Y B c → (∀ j, j < 64 → c 17 j = 0) → TRd X Y B n odd c y → ∃ c', Filler_trace_2L (N + d + 1) odd y c = some (0, c') ∧ TRd X Y B n odd c' 48 ∧ (∀ j, j < 64 → c' 17 j = 0) ∧ fC rC c c' := by
  intro d
  induction d with
  | zero =>
    intro y N c hy hd hz ht
    have : y = 48 := by omega
    subst this
    refine ⟨c, ?_, ht, hz, fC_rf _ _⟩
    show Filler_trace_2 _ _ _ _ = _
    unfold Filler_trace_2
    rw [if_pos (by decide)]
  | succ d ih =>
    intro y N c hy hd hz ht
    have hn := hd.1
    obtain ⟨b, c1, m1, m2, m3, m4, m5⟩ := meet_is (X := X) (Y := Y) (B := B) (cy := 4 * (y : Int) + 2) (by omega) (by omega) hd hz
    have by_ : (0 : Int) ≤ (y : Int) ∧ (y : Int) < 48 := ⟨by omega, by omega⟩
    have f7 : ∀ {a b : gS}, fC t7 a b → fC rC a b := fun k => fC_mono (fun q hq => by unfold t7 at hq; unfold rC; rw [hq, Bool.or_true]) k
    have step : ∀ (row : Int) (c2 : gS), fC t7 c c2 → (∀ j, j < 64 → c2 17 j = 0) → (∀ j : Nat, j < 64 → lb row (63 - j) = isI X Y B n odd (4 * (j : Int) + 2) (4 * (y : Int) + 2)) → ∃ c', Filler_trace_35 (Filler_trace_2L (N + d + 1)) odd y y row c2 = some (0, c') ∧ TRd X Y B n odd c' 48 ∧ (∀ j, j < 64 → c' 17 j = 0) ∧ fC rC c c' := by
      intro row c2 f2 hz2 hr
      obtain ⟨c', i1, i2, i3, i4⟩ := ih (y + 1) N (g_up c2 16 y row) (by omega) (PD_fr (fC_tr (f7 f2) (fC_up rfl)) hd) (fun j hj => by rw [g_up_ne (by decide)]; exact hz2 j hj) (fun y' hy' x hx => by
        rcases (show y' = y ∨ y' < y by omega) with rfl | q
        · rw [up_y]; exact hr x hx
        · rw [up_n (by omega), f2 16 rfl]; exact ht y' q x hx)
      refine ⟨c', ?_, i2, i3, fC_tr (f7 f2) (fC_tr (fC_up rfl) i4)⟩
      unfold Filler_trace_35
      rw [w_nat (by omega), if_pos by_, g_le_s, Int.toNat_natCast]
      exact i1
    have hb : ∀ j, j < 64 → -1000 ≤ cum (c1 17) (j + 1) ∧ cum (c1 17) (j + 1) ≤ 1000 := fun j hj => by
      have := sm_bd X Y B n (4 * (j : Int) + 2) (4 * (y : Int) + 2) n
      rw [m4 j hj]
      omega
    show ∃ c', Filler_trace_2 (Filler_trace_2L (N + d + 1)) _ _ _ = _ ∧ _
    unfold Filler_trace_2
    rw [w_nat (by omega), if_neg (by omega), m1, g_bi_s, w32_01 m2]
    by_cases e : b = 0
    · rw [if_pos e]
      refine step 0 c1 m5 (m3 e) fun j hj => ?_
      rw [lb_0, isI_inB, ← m4 j hj, cum_0 (n := 64) (m3 e) (j + 1) (by omega)]
      unfold inB
      split <;> rfl
    · rw [if_neg e]
      obtain ⟨row, c2, s1, s2, s3, s4⟩ := sweep_is (c := c1) ho hb
      rw [s1, g_bi_s]
      refine step row c2 (fC_tr m5 s4) s3 fun j hj => ?_
      rw [s2 j hj, m4 j hj, isI_inB]
theorem trace_is (ho : odd = 0 ∨ odd = 1) (hd : PD n X Y B c) (hz : ∀ j, j < 64 → c 17 j = 0) : ∃ c', Filler_trace odd c = some (0, c') ∧ TRd X Y B n odd c' 48 ∧ (∀ j, j < 64 → c' 17 j = 0) ∧ fC rC c c' := by
  have := tr_loop (X := X) (Y := Y) (B := B) ho 48 0 (1000000000000 - 49) c (by omega) hd hz (fun y hy => by omega)
  rw [show 1000000000000 - 49 + 48 + 1 = gFu from rfl] at this
  exact this
end TR

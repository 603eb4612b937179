/-! stretches; what is painted -/
def JG (k : Nat) (c m : gS) : Prop := k ≤ 8 ∧ c 34 2 = k ∧ m 49 8 = k ∧ c 34 3 = m 49 36 ∧ 0 ≤ m 49 36 ∧ m 49 36 ≤ 250 ∧ BR (c 36) (fun j => m 64 (24576 + j)) ∧ ∀ p, p < k → BR (fun y => c 35 (48 * p + y)) (fun j => m 64 (3072 * p + j))
def pgC (q : Nat) : Bool := decide (34 ≤ q) && decide (q ≤ 36)
def pgM (q k : Nat) : Bool := (decide (q = 49) && (decide (k = 8) || decide (k = 36))) || decide (q = 64)
section MK
variable {n l k : Nat} {X Y B C : Nat → Int} {c c' m m' : gS} {odd : Int}
theorem JG_congr (h1 : c' 34 = c 34) (h2 : c' 35 = c 35) (h3 : c' 36 = c 36) (h4 : m' 49 8 = m 49 8) (h5 : m' 49 36 = m 49 36) (h6 : m' 64 = m 64) (h : JG k c m) : JG k c' m' := by
  unfold JG
  rw [h1, h2, h3, h4, h5, h6]
  exact h
theorem clip_is (h : JM l c m) {y : Nat} (hy : y < 48) : Settings_clipLine y c = some (c 27 (48 * l + y), c) := by
  have hl := h.1
  unfold Settings_clipLine
  rw [h.2.1, show (l : Int) * 48 + y = ((48 * l + y : Nat) : Int) by omega, w_nat (by omega), if_pos ⟨by omega, by omega⟩, Int.toNat_natCast]
/-- the painted bits of a line -/
def pl (c : gS) (l y : Nat) : Int := l_and (c 16 y) (c 27 (48 * l + y))
theorem pl_bit (h : JM l c m) (ht : TRd X Y B n odd c 48) {y x : Nat} (hy : y < 48) (hx : x < 64) : lb (pl c l y) (63 - x) = gin (m 63) X Y B n odd y x := by
  have e := h.2.2.2.1.2 y hy x hx
  unfold pl gin
  rw [lb_and, ht y hy x hx]
  have e2 : lb (c 27 (48 * l + y)) (63 - x) = decide (m 63 (64 * y + x) = 1) := by
    rw [e]
    cases lb (c 27 (48 * l + y)) (63 - x) <;> rfl
  rw [e2, Bool.and_comm]
theorem lb_64 (z : Int) : lb z 64 = false := BitVec.getLsbD_of_ge _ _ (Nat.le_refl 64)
theorem run_bits {p : Int} {g : Nat → Bool} (h : ∀ x, x < 64 → lb p (63 - x) = g x) : nS (lb (l_and p (l_xor (l_ushr p 1) (-1)))) 64 = nS (ru g) 64 := by
  have e : ∀ b, b < 64 → lb (l_and p (l_xor (l_ushr p 1) (-1))) b = (lb p b && !lb p (1 + b)) := fun b hb => by
    have e1 := lb_ushr p (n := 1) (by decide) b
    rw [show ((1 : Nat) : Int) = 1 from rfl] at e1
    rw [lb_and, lb_not _ hb, e1]
  rw [nS_congr e, ← nS_rev]
  refine nS_congr fun i hi => ?_
  show (lb p (64 - 1 - i) && !lb p (1 + (64 - 1 - i))) = _
  cases i with
  | zero =>
    rw [show 64 - 1 - 0 = 63 - 0 by omega, h 0 (by omega), show 1 + (63 - 0) = 64 by omega, lb_64]
    rfl
  | succ i =>
    rw [show 64 - 1 - (i + 1) = 63 - (i + 1) by omega, h (i + 1) hi, show 1 + (63 - (i + 1)) = 63 - i by omega, h i (by omega)]
    rfl
theorem tot_bd (g : Nat → Nat → Bool) : ∀ y, tot g y ≤ 64 * y := by
  intro y
  induction y with
  | zero => exact Nat.le_refl 0
  | succ y ih =>
    have := nS_le (ru (g y)) 64
    simp only [tot]
    omega
theorem marks_loop (h : JM l c m) (ht : TRd X Y B n odd c 48) : ∀ (d y N : Nat), y + d = 48 → Pages_marksOf_4L (N + d + 1) (tot (gin (m 63) X Y B n odd) y : Nat) y c = some (((tot (gin (m 63) X Y B n odd) 48 : Nat) : Int), c) := by
  intro d
  induction d with
  | zero =>
    intro y N hy
    have : y = 48 := by omega
    subst this
    show Pages_marksOf_4 _ _ _ _ = _
    unfold Pages_marksOf_4
    rw [if_pos (by decide)]
  | succ d ih =>
    intro y N hy
    show Pages_marksOf_4 (Pages_marksOf_4L (N + d + 1)) _ _ _ = _
    unfold Pages_marksOf_4
    have e := run_bits (p := pl c l y) (g := gin (m 63) X Y B n odd y) fun x hx => pl_bit h ht (by omega) hx
    have by_ : (0 : Int) ≤ (y : Int) ∧ (y : Int) < 48 := ⟨by omega, by omega⟩
    rw [w_nat (by omega), if_neg (by omega), if_pos by_, clip_is h (by omega), g_bi_s, g_le_s, Int.toNat_natCast]
    show g_bi (Long_bitCount (l_and (pl c l y) (l_xor (l_ushr (pl c l y) 1) (-1))) c) _ = _
    rw [bitCount_is, g_bi_s, g_le_s, e]
    exact ih (y + 1) N (by omega)
theorem marks_is (h : JM l c m) (ht : TRd X Y B n odd c 48) : Pages_marksOf c = some (((tot (gin (m 63) X Y B n odd) 48 : Nat) : Int), c) := by
  have e := marks_loop h ht 48 0 (1000000000000 - 49) (by omega)
  rw [show 1000000000000 - 49 + 48 + 1 = gFu from rfl] at e
  exact e
/-! dots -/
def cl (x y : Nat) : Int := 4 * (if y % 2 = 0 then (if x % 2 = 0 then 0 else 2) else (if x % 2 = 0 then 3 else 1)) + (if y / 2 % 2 = 0 then (if x / 2 % 2 = 0 then 0 else 2) else (if x / 2 % 2 = 0 then 3 else 1))
theorem cl_mod (x y : Nat) : cl x y = cl (x % 4) (y % 4) := by
  unfold cl
  rw [show y % 4 % 2 = y % 2 by omega, show x % 4 % 2 = x % 2 by omega, show y % 4 / 2 % 2 = y / 2 % 2 by omega, show x % 4 / 2 % 2 = x / 2 % 2 by omega]
theorem cl_ce : ∀ y : Fin 4, ∀ x : Fin 4, g_ce ((y : Nat) * 4 + x) = cl x y := by decide
theorem cl_bd (x y : Nat) : 0 ≤ cl x y ∧ cl x y ≤ 15 := by
  unfold cl
  constructor <;> repeat' split <;> omega
theorem i_and2F : ∀ z : Fin 64, (w32 (i_and ((z : Nat) : Int) 2) = 0) ↔ (z : Nat) / 2 % 2 = 0 := by decide
theorem i_and2 {z : Nat} (hz : z < 64) : (w32 (i_and z 2) = 0) ↔ z / 2 % 2 = 0 := i_and2F ⟨z, hz⟩
theorem i_and1' (z : Nat) : (w32 (i_and z 1) = 0) ↔ z % 2 = 0 := by
  rw [i_and1, w32_id (by omega) (by omega)]
  omega
end MK

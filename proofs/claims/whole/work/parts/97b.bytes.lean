/-! bytes of a line -/
section BY
variable {k p : Nat} {c m : gS}
theorem byte_bits {N s : Nat} : ∀ k, k ≤ 8 → N / 2 ^ (s + 8 - (k + 1)) % 2 ^ (k + 1) = 2 * (N / 2 ^ (s + 8 - k) % 2 ^ k) + N / 2 ^ (s + 8 - (k + 1)) % 2 ∨ k = 8 := by
  intro k hk
  rcases (show k = 8 ∨ k < 8 by omega) with e | e
  · exact Or.inr e
  · refine Or.inl ?_
    have h1 : N / 2 ^ (s + 8 - k) = N / 2 ^ (s + 8 - (k + 1)) / 2 := by
      rw [Nat.div_div_eq_div_mul, ← Nat.pow_succ, show (s + 8 - (k + 1)).succ = s + 8 - k by omega]
    rw [h1, Nat.pow_succ, Nat.mul_comm (2 ^ k) 2, Nat.mod_mul]
    omega
/-- the i-th byte of a line, from the left -/
def oct (r : Int) (i : Nat) : Int := byt r (7 - i)
theorem oct_bd (r : Int) (i : Nat) : 0 ≤ oct r i ∧ oct r i ≤ 255 := byt_lo r (7 - i)
theorem lb_div (r : Int) (j : Nat) : lb r j = decide (lu r / 2 ^ j % 2 = 1) := by
  unfold lb lu
  rw [BitVec.getLsbD, Nat.testBit_eq_decide_div_mod_eq]
theorem byteM_loop (hb : BR (fun y => c 35 (48 * p + y)) (fun j => m 64 (3072 * p + j))) (hp : p < 8) {y i : Nat} (hy : y < 48) (hi : i < 8) : ∀ (d k N : Nat), k + d = 8 → M_byteOf_6L (N + d + 1) p y i ((lu (c 35 (48 * p + y)) / 2 ^ (8 * (7 - i) + 8 - k) % 2 ^ k : Nat) : Int) k m = some (oct (c 35 (48 * p + y)) i, m) := by
  intro d
  induction d with
  | zero =>
    intro k N hk
    have : k = 8 := by omega
    subst this
    show M_byteOf_6 _ _ _ _ _ _ _ = _
    unfold M_byteOf_6
    rw [if_pos (by decide)]
    unfold oct byt
    rw [show 8 * (7 - i) + 8 - 8 = 8 * (7 - i) by omega]
  | succ d ih =>
    intro k N hk
    have bit := hb y hy (8 * i + k) (by omega)
    have e := lb_div (c 35 (48 * p + y)) (63 - (8 * i + k))
    obtain ⟨r, hr⟩ : ∃ r, r = c 35 (48 * p + y) := ⟨_, rfl⟩
    have bb := (byte_bits (N := lu r) (s := 8 * (7 - i)) k (by omega)).resolve_right (by omega)
    have ex : 63 - (8 * i + k) = 8 * (7 - i) + 8 - (k + 1) := by omega
    have nx := ih (k + 1) N (by omega)
    have bit' : m 64 (3072 * p + (64 * y + (8 * i + k))) = if lb r (63 - (8 * i + k)) then 1 else 0 := by rw [hr]; exact bit
    rw [← hr] at nx e ⊢
    rw [ex] at e bit'
    show M_byteOf_6 (M_byteOf_6L (N + d + 1)) _ _ _ _ _ _ = _
    unfold M_byteOf_6 M_byteOf_48
    have bi_ : (0 : Int) ≤ ((3072 * p + (64 * y + (8 * i + k)) : Nat) : Int) ∧ ((3072 * p + (64 * y + (8 * i + k)) : Nat) : Int) < 27648 := ⟨by omega, by omega⟩
    rw [show 3072 * (p : Int) + 64 * (y : Int) + 8 * (i : Int) + k = ((3072 * p + (64 * y + (8 * i + k)) : Nat) : Int) by omega, w_nat (show k < 2147483648 by omega), if_neg (by omega), w_nat (show 3072 * p + (64 * y + (8 * i + k)) < 2147483648 by omega), if_pos bi_, Int.toNat_natCast, bit', g_le_s, g_le_s, show (k : Int) + 1 = ((k + 1 : Nat) : Int) by omega]
    have t2 : lu r / 2 ^ (8 * (7 - i) + 8 - (k + 1)) % 2 < 2 := Nat.mod_lt _ (by decide)
    generalize lu r / 2 ^ (8 * (7 - i) + 8 - (k + 1)) % 2 ^ (k + 1) = A at nx bb
    generalize lu r / 2 ^ (8 * (7 - i) + 8 - (k + 1)) % 2 = t at e t2 bb
    generalize lu r / 2 ^ (8 * (7 - i) + 8 - k) % 2 ^ k = B at bb ⊢
    rcases (show t = 0 ∨ t = 1 by omega) with e0 | e0
    · have e1 : lb r (8 * (7 - i) + 8 - (k + 1)) = false := by rw [e, e0]; rfl
      rw [e1, if_pos (show w32 (if false = true then (1 : Int) else 0) = 0 by decide), show 2 * (B : Int) + 0 = (A : Int) by omega]
      exact nx
    · have e1 : lb r (8 * (7 - i) + 8 - (k + 1)) = true := by rw [e, e0]; rfl
      rw [e1, if_neg (show ¬ w32 (if true = true then (1 : Int) else 0) = 0 by decide), show 2 * (B : Int) + 1 = (A : Int) by omega]
      exact nx
theorem byteM (hb : BR (fun y => c 35 (48 * p + y)) (fun j => m 64 (3072 * p + j))) (hp : p < 8) {y i : Nat} (hy : y < 48) (hi : i < 8) : M_byteOf p y i m = some (oct (c 35 (48 * p + y)) i, m) := by
  have e := byteM_loop hb hp hy hi 8 0 (1000000000000 - 9) (by omega)
  rw [show 1000000000000 - 9 + 8 + 1 = gFu from rfl, Nat.pow_zero, Nat.mod_one] at e
  exact e
theorem oct_eq {r q : Int} (h : ∀ i, i < 8 → oct r i = oct q i) : lu r = lu q := by
  have key : ∀ k, k ≤ 8 → lu r % 2 ^ (8 * k) = lu q % 2 ^ (8 * k) := by
    intro k
    induction k with
    | zero => intro _; rw [Nat.mul_zero, Nat.pow_zero, Nat.mod_one, Nat.mod_one]
    | succ k ih =>
      intro hk
      have e := h (7 - k) (by omega)
      unfold oct byt at e
      rw [show 7 - (7 - k) = k by omega] at e
      have e2 : lu r / 2 ^ (8 * k) % 256 = lu q / 2 ^ (8 * k) % 256 := by omega
      rw [show 8 * (k + 1) = 8 * k + 8 by omega, Nat.pow_add, Nat.mod_mul, Nat.mod_mul, ih (by omega), show (2 : Nat) ^ 8 = 256 from rfl, e2]
  have := key 8 (Nat.le_refl 8)
  rw [Nat.mod_eq_of_lt (lu_lt r), Nat.mod_eq_of_lt (lu_lt q)] at this
  exact this
theorem cmp_lu (r q : Int) : (w32 (l_cmp r q) = 0) ↔ lu r = lu q := by
  have e : lu r = lu q ↔ w64 r = w64 q := by
    rw [lB_eq]
    unfold lu
    exact ⟨fun h => BitVec.eq_of_toNat_eq h, fun h => by rw [h]⟩
  rw [e]
  unfold l_cmp
  by_cases a : w64 q < w64 r
  · rw [if_pos a]
    exact ⟨fun h => absurd h (by decide), fun h => by omega⟩
  · rw [if_neg a]
    by_cases b : w64 r = w64 q
    · rw [if_pos b]; exact ⟨fun _ => b, fun _ => rfl⟩
    · rw [if_neg b]; exact ⟨fun h => absurd h (by decide), fun h => absurd h b⟩
theorem lu_oct {r q : Int} (h : lu r = lu q) (i : Nat) : oct r i = oct q i := by unfold oct byt; rw [h]
end BY

/-! how many bits of a long are set -/
def nS (g : Nat → Bool) : Nat → Nat
  | 0 => 0
  | n + 1 => nS g n + (g n).toNat
theorem nS_congr {g h : Nat → Bool} {n : Nat} (e : ∀ i, i < n → g i = h i) : nS g n = nS h n := by
  induction n with
  | zero => rfl
  | succ n ih => simp only [nS]; rw [ih fun i hi => e i (by omega), e n (by omega)]
theorem nS_add (g : Nat → Bool) (a b : Nat) : nS g (a + b) = nS g a + nS (fun i => g (a + i)) b := by
  induction b with
  | zero => rfl
  | succ b ih => show nS g (a + b) + (g (a + b)).toNat = nS g a + (nS (fun i => g (a + i)) b + (g (a + b)).toNat); rw [ih]; omega
theorem nS_rev (g : Nat → Bool) (n : Nat) : nS (fun i => g (n - 1 - i)) n = nS g n := by
  induction n generalizing g with
  | zero => rfl
  | succ n ih =>
    have h := nS_add (fun i => g (n + 1 - 1 - i)) 1 n
    rw [Nat.add_comm 1 n] at h
    rw [h]
    have e : nS (fun i => g (n + 1 - 1 - (1 + i))) n = nS g n := by
      rw [← ih g]
      refine nS_congr fun i hi => ?_
      show g _ = g _
      congr 1
      omega
    rw [e]
    simp only [nS]
    rw [show n + 1 - 1 - 0 = n by omega]
    omega
theorem nS_le (g : Nat → Bool) (n : Nat) : nS g n ≤ n := by
  induction n with
  | zero => exact Nat.le_refl 0
  | succ n ih =>
    simp only [nS]
    have := Bool.toNat_le (g n)
    omega
theorem and_blk {a b c d : Nat} (ha : a < 256) (hc : c < 256) : (a + 256 * b) &&& (c + 256 * d) = (a &&& c) + 256 * (b &&& d) := by
  have h1 := Nat.and_mod_two_pow (a := a + 256 * b) (b := c + 256 * d) (n := 8)
  have h2 := Nat.and_div_two_pow (a := a + 256 * b) (b := c + 256 * d) (n := 8)
  rw [show (2 : Nat) ^ 8 = 256 from rfl] at h1 h2
  rw [show (a + 256 * b) % 256 = a by omega, show (c + 256 * d) % 256 = c by omega] at h1
  rw [show (a + 256 * b) / 256 = b by omega, show (c + 256 * d) / 256 = d by omega] at h2
  omega
def p1 (b : Nat) : Nat := b - ((b / 2) &&& 85)
def p2 (b : Nat) : Nat := (b &&& 51) + ((b / 4) &&& 51)
def p3 (b : Nat) : Nat := (b + b / 16) &&& 15
theorem p_all : ∀ b : Fin 256, p1 b < 256 ∧ p2 (p1 b) < 73 ∧ p2 (p1 b) % 16 ≤ 4 ∧ p3 (p2 (p1 b)) ≤ 8 ∧ p3 (p2 (p1 b)) = nS (Nat.testBit b) 8 := by decide +kernel
theorem m_1 : ∀ (b : Fin 256) (t : Fin 2), ((b : Nat) / 2 + 128 * t) &&& 85 = ((b : Nat) / 2) &&& 85 := by decide +kernel
theorem m_2 : ∀ (b : Fin 256) (t : Fin 4), ((b : Nat) / 4 + 64 * t) &&& 51 = ((b : Nat) / 4) &&& 51 := by decide +kernel
theorem m_3 : ∀ (b : Fin 80) (t : Fin 8), ((b : Nat) + 16 * t) &&& 15 = (b : Nat) &&& 15 := by decide +kernel
theorem s_1 {b r M : Nat} (hb : b < 256) : b + 256 * r - (((b + 256 * r) / 2) &&& (85 + 256 * M)) = p1 b + 256 * (r - ((r / 2) &&& M)) := by
  have e : (b + 256 * r) / 2 = (b / 2 + 128 * (r % 2)) + 256 * (r / 2) := by omega
  rw [e, and_blk (by omega) (by decide), show (b / 2 + 128 * (r % 2)) &&& 85 = (b / 2) &&& 85 from m_1 ⟨b, hb⟩ ⟨r % 2, by omega⟩]
  unfold p1
  have h1 : (b / 2) &&& 85 ≤ b := Nat.le_trans Nat.and_le_left (by omega)
  have h2 : (r / 2) &&& M ≤ r := Nat.le_trans Nat.and_le_left (by omega)
  omega
theorem s_2 {b r M : Nat} (hb : b < 256) : ((b + 256 * r) &&& (51 + 256 * M)) + (((b + 256 * r) / 4) &&& (51 + 256 * M)) = p2 b + 256 * ((r &&& M) + ((r / 4) &&& M)) := by
  have e : (b + 256 * r) / 4 = (b / 4 + 64 * (r % 4)) + 256 * (r / 4) := by omega
  rw [e, and_blk hb (by decide), and_blk (by omega) (by decide), show (b / 4 + 64 * (r % 4)) &&& 51 = (b / 4) &&& 51 from m_2 ⟨b, hb⟩ ⟨r % 4, by omega⟩]
  unfold p2
  omega
theorem s_3 {b r M : Nat} (hb : b < 73) (hr : r % 16 ≤ 4) : ((b + 256 * r) + (b + 256 * r) / 16) &&& (15 + 256 * M) = p3 b + 256 * ((r + r / 16) &&& M) := by
  have e : (b + 256 * r) + (b + 256 * r) / 16 = (b + b / 16 + 16 * (r % 16)) + 256 * (r + r / 16) := by omega
  rw [e, and_blk (by omega) (by decide), m_3 ⟨b + b / 16, by omega⟩ ⟨r % 16, by omega⟩]
  rfl
def cat8 (b0 b1 b2 b3 b4 b5 b6 b7 : Nat) : Nat := b0 + 256 * (b1 + 256 * (b2 + 256 * (b3 + 256 * (b4 + 256 * (b5 + 256 * (b6 + 256 * (b7 + 256 * 0)))))))
theorem c_1 {b0 b1 b2 b3 b4 b5 b6 b7 : Nat} (h0 : b0 < 256) (h1 : b1 < 256) (h2 : b2 < 256) (h3 : b3 < 256) (h4 : b4 < 256) (h5 : b5 < 256) (h6 : b6 < 256) (h7 : b7 < 256) : cat8 b0 b1 b2 b3 b4 b5 b6 b7 - ((cat8 b0 b1 b2 b3 b4 b5 b6 b7 / 2) &&& 6148914691236517205) = cat8 (p1 b0) (p1 b1) (p1 b2) (p1 b3) (p1 b4) (p1 b5) (p1 b6) (p1 b7) := by
  rw [show (6148914691236517205 : Nat) = 85 + 256 * (85 + 256 * (85 + 256 * (85 + 256 * (85 + 256 * (85 + 256 * (85 + 256 * (85 + 256 * 0))))))) from rfl]
  unfold cat8
  rw [s_1 h0, s_1 h1, s_1 h2, s_1 h3, s_1 h4, s_1 h5, s_1 h6, s_1 h7]
  rfl
theorem c_2 {b0 b1 b2 b3 b4 b5 b6 b7 : Nat} (h0 : b0 < 256) (h1 : b1 < 256) (h2 : b2 < 256) (h3 : b3 < 256) (h4 : b4 < 256) (h5 : b5 < 256) (h6 : b6 < 256) (h7 : b7 < 256) : (cat8 b0 b1 b2 b3 b4 b5 b6 b7 &&& 3689348814741910323) + ((cat8 b0 b1 b2 b3 b4 b5 b6 b7 / 4) &&& 3689348814741910323) = cat8 (p2 b0) (p2 b1) (p2 b2) (p2 b3) (p2 b4) (p2 b5) (p2 b6) (p2 b7) := by
  rw [show (3689348814741910323 : Nat) = 51 + 256 * (51 + 256 * (51 + 256 * (51 + 256 * (51 + 256 * (51 + 256 * (51 + 256 * (51 + 256 * 0))))))) from rfl]
  unfold cat8
  rw [s_2 h0, s_2 h1, s_2 h2, s_2 h3, s_2 h4, s_2 h5, s_2 h6, s_2 h7]
  rfl
theorem c_3 {b0 b1 b2 b3 b4 b5 b6 b7 : Nat} (h0 : b0 < 73) (h1 : b1 < 73) (h2 : b2 < 73) (h3 : b3 < 73) (h4 : b4 < 73) (h5 : b5 < 73) (h6 : b6 < 73) (h7 : b7 < 73) (g1 : b1 % 16 ≤ 4) (g2 : b2 % 16 ≤ 4) (g3 : b3 % 16 ≤ 4) (g4 : b4 % 16 ≤ 4) (g5 : b5 % 16 ≤ 4) (g6 : b6 % 16 ≤ 4) (g7 : b7 % 16 ≤ 4) : ((cat8 b0 b1 b2 b3 b4 b5 b6 b7 + cat8 b0 b1 b2 b3 b4 b5 b6 b7 / 16) &&& 1085102592571150095) = cat8 (p3 b0) (p3 b1) (p3 b2) (p3 b3) (p3 b4) (p3 b5) (p3 b6) (p3 b7) := by
  rw [show (1085102592571150095 : Nat) = 15 + 256 * (15 + 256 * (15 + 256 * (15 + 256 * (15 + 256 * (15 + 256 * (15 + 256 * (15 + 256 * 0))))))) from rfl]
  unfold cat8
  rw [s_3 h0 (by omega), s_3 h1 (by omega), s_3 h2 (by omega), s_3 h3 (by omega), s_3 h4 (by omega), s_3 h5 (by omega), s_3 h6 (by omega), s_3 h7 (by omega)]
  rfl
theorem tb_lo {b r i : Nat} (hb : b < 256) (hi : i < 8) : Nat.testBit (b + 256 * r) i = Nat.testBit b i := by
  have h := Nat.testBit_mod_two_pow (b + 256 * r) 8 i
  rw [show (2 : Nat) ^ 8 = 256 from rfl, show (b + 256 * r) % 256 = b by omega, decide_eq_true hi, Bool.true_and] at h
  exact h.symm
theorem tb_hi {b r i : Nat} (hb : b < 256) : Nat.testBit (b + 256 * r) (8 + i) = Nat.testBit r i := by
  have h := Nat.testBit_div_two_pow (n := 8) (b + 256 * r) i
  rw [show (2 : Nat) ^ 8 = 256 from rfl, show (b + 256 * r) / 256 = r by omega] at h
  rw [h, Nat.add_comm i 8]
theorem nS_blk {b r k : Nat} (hb : b < 256) : nS (Nat.testBit (b + 256 * r)) (8 + k) = nS (Nat.testBit b) 8 + nS (Nat.testBit r) k := by
  rw [nS_add, nS_congr (h := Nat.testBit b) fun i hi => tb_lo hb hi, nS_congr (g := fun i => Nat.testBit (b + 256 * r) (8 + i)) (h := Nat.testBit r) fun i _ => tb_hi hb]
theorem nS_cat {b0 b1 b2 b3 b4 b5 b6 b7 : Nat} (h0 : b0 < 256) (h1 : b1 < 256) (h2 : b2 < 256) (h3 : b3 < 256) (h4 : b4 < 256) (h5 : b5 < 256) (h6 : b6 < 256) (h7 : b7 < 256) : nS (Nat.testBit (cat8 b0 b1 b2 b3 b4 b5 b6 b7)) 64 = nS (Nat.testBit b0) 8 + (nS (Nat.testBit b1) 8 + (nS (Nat.testBit b2) 8 + (nS (Nat.testBit b3) 8 + (nS (Nat.testBit b4) 8 + (nS (Nat.testBit b5) 8 + (nS (Nat.testBit b6) 8 + (nS (Nat.testBit b7) 8 + 0))))))) := by
  unfold cat8
  rw [show 64 = 8 + (8 + (8 + (8 + (8 + (8 + (8 + (8 + 0))))))) from rfl, nS_blk h0, nS_blk h1, nS_blk h2, nS_blk h3, nS_blk h4, nS_blk h5, nS_blk h6, nS_blk h7]
  rfl
theorem cat_of {N : Nat} (h : N < 18446744073709551616) : N = cat8 (N % 256) (N / 256 % 256) (N / 65536 % 256) (N / 16777216 % 256) (N / 4294967296 % 256) (N / 1099511627776 % 256) (N / 281474976710656 % 256) (N / 72057594037927936 % 256) := by
  unfold cat8
  omega
def pop (N : Nat) : Nat :=
  let a1 := N - ((N / 2) &&& 6148914691236517205)
  let a2 := (a1 &&& 3689348814741910323) + ((a1 / 4) &&& 3689348814741910323)
  let a3 := (a2 + a2 / 16) &&& 1085102592571150095
  let a4 := a3 + a3 / 256
  let a5 := a4 + a4 / 65536
  (a5 + a5 / 4294967296) % 128
theorem dv8 {a b : Nat} (h : a < 256) : (a + 256 * b) / 256 = b := by omega
theorem add_blk (a b c d : Nat) : (a + 256 * b) + (c + 256 * d) = (a + c) + 256 * (b + d) := by omega
theorem shr8 {b0 b1 b2 b3 b4 b5 b6 b7 : Nat} (h0 : b0 < 256) : cat8 b0 b1 b2 b3 b4 b5 b6 b7 / 256 = cat8 b1 b2 b3 b4 b5 b6 b7 0 := by
  unfold cat8
  rw [dv8 h0]
theorem add8 (a0 a1 a2 a3 a4 a5 a6 a7 b0 b1 b2 b3 b4 b5 b6 b7 : Nat) : cat8 a0 a1 a2 a3 a4 a5 a6 a7 + cat8 b0 b1 b2 b3 b4 b5 b6 b7 = cat8 (a0 + b0) (a1 + b1) (a2 + b2) (a3 + b3) (a4 + b4) (a5 + b5) (a6 + b6) (a7 + b7) := by
  unfold cat8
  rw [add_blk, add_blk, add_blk, add_blk, add_blk, add_blk, add_blk, add_blk]
theorem mod8 (b0 b1 b2 b3 b4 b5 b6 b7 : Nat) : cat8 b0 b1 b2 b3 b4 b5 b6 b7 % 128 = b0 % 128 := by
  unfold cat8
  generalize b1 + 256 * _ = X
  omega
theorem pop_sum {q0 q1 q2 q3 q4 q5 q6 q7 : Nat} (h0 : q0 ≤ 8) (h1 : q1 ≤ 8) (h2 : q2 ≤ 8) (h3 : q3 ≤ 8) (h4 : q4 ≤ 8) (h5 : q5 ≤ 8) (h6 : q6 ≤ 8) (h7 : q7 ≤ 8) {a3 a4 a5 : Nat} (e3 : a3 = cat8 q0 q1 q2 q3 q4 q5 q6 q7) (e4 : a4 = a3 + a3 / 256) (e5 : a5 = a4 + a4 / 65536) : (a5 + a5 / 4294967296) % 128 = q0 + (q1 + (q2 + (q3 + (q4 + (q5 + (q6 + (q7 + 0))))))) := by
  rw [e3, shr8 (by omega), add8] at e4
  rw [e4, show (65536 : Nat) = 256 * 256 from rfl, ← Nat.div_div_eq_div_mul, shr8 (by omega), shr8 (by omega), add8] at e5
  rw [e5, show (4294967296 : Nat) = 256 * 256 * 256 * 256 from rfl, ← Nat.div_div_eq_div_mul, ← Nat.div_div_eq_div_mul, ← Nat.div_div_eq_div_mul, shr8 (by omega), shr8 (by omega), shr8 (by omega), shr8 (by omega), add8, mod8]
  clear e3 e4 e5
  omega
theorem pop_cat {b0 b1 b2 b3 b4 b5 b6 b7 : Nat} (h0 : b0 < 256) (h1 : b1 < 256) (h2 : b2 < 256) (h3 : b3 < 256) (h4 : b4 < 256) (h5 : b5 < 256) (h6 : b6 < 256) (h7 : b7 < 256) : pop (cat8 b0 b1 b2 b3 b4 b5 b6 b7) = nS (Nat.testBit (cat8 b0 b1 b2 b3 b4 b5 b6 b7)) 64 := by
  obtain ⟨r0, u0, v0, w0, x0⟩ := p_all ⟨b0, h0⟩
  obtain ⟨r1, u1, v1, w1, x1⟩ := p_all ⟨b1, h1⟩
  obtain ⟨r2, u2, v2, w2, x2⟩ := p_all ⟨b2, h2⟩
  obtain ⟨r3, u3, v3, w3, x3⟩ := p_all ⟨b3, h3⟩
  obtain ⟨r4, u4, v4, w4, x4⟩ := p_all ⟨b4, h4⟩
  obtain ⟨r5, u5, v5, w5, x5⟩ := p_all ⟨b5, h5⟩
  obtain ⟨r6, u6, v6, w6, x6⟩ := p_all ⟨b6, h6⟩
  obtain ⟨r7, u7, v7, w7, x7⟩ := p_all ⟨b7, h7⟩
  rw [nS_cat h0 h1 h2 h3 h4 h5 h6 h7]
  dsimp only at *
  rw [← x0, ← x1, ← x2, ← x3, ← x4, ← x5, ← x6, ← x7]
  refine pop_sum w0 w1 w2 w3 w4 w5 w6 w7 ?_ rfl rfl
  rw [c_1 h0 h1 h2 h3 h4 h5 h6 h7, c_2 r0 r1 r2 r3 r4 r5 r6 r7, c_3 u0 u1 u2 u3 u4 u5 u6 u7 v1 v2 v3 v4 v5 v6 v7]
theorem pop_is {N : Nat} (h : N < 18446744073709551616) : pop N = nS (Nat.testBit N) 64 := by
  rw [cat_of h]
  have k : ∀ x : Nat, x % 256 < 256 := fun x => Nat.mod_lt x (by decide)
  exact pop_cat (k _) (k _) (k _) (k _) (k _) (k _) (k _) (k _)
def lu (z : Int) : Nat := (lB z).toNat
theorem lu_lt (z : Int) : lu z < 18446744073709551616 := (lB z).isLt
theorem lu_and (x y : Int) : lu (l_and x y) = lu x &&& lu y := by unfold lu; rw [lB_and, BitVec.toNat_and]
theorem lu_ushr (x : Int) {n : Nat} (hn : n < 64) : lu (l_ushr x n) = lu x / 2 ^ n := by unfold lu; rw [lB_ushr x hn, BitVec.toNat_ushiftRight, Nat.shiftRight_eq_div_pow]
theorem lu_val (z : Int) : (lu z : Int) = z % 18446744073709551616 := by
  unfold lu lB
  rw [BitVec.toNat_ofInt]
  show (((z % 18446744073709551616).toNat : Nat) : Int) = _
  omega
theorem lu_add {x y : Int} (h : lu x + lu y < 18446744073709551616) : lu (x + y) = lu x + lu y := by
  have h1 := lu_val x
  have h2 := lu_val y
  have h3 := lu_val (x + y)
  omega
theorem lu_sub {x y : Int} (h : lu y ≤ lu x) : lu (x - y) = lu x - lu y := by
  have h1 := lu_val x
  have h2 := lu_val y
  have h3 := lu_val (x - y)
  have h4 := lu_lt x
  omega
theorem i_and127 (z : Int) : i_and z 127 = ((lu z % 128 : Nat) : Int) := by
  unfold i_and
  show (BitVec.ofInt 32 z &&& 127#32).toInt = _
  have e : (BitVec.ofInt 32 z &&& 127#32).toNat = lu z % 128 := by
    rw [BitVec.toNat_and, show (127#32).toNat = 2 ^ 7 - 1 from rfl, Nat.and_two_pow_sub_one_eq_mod, BitVec.toNat_ofInt]
    have h1 := lu_val z
    show (z % 4294967296).toNat % 128 = _
    omega
  rw [BitVec.toInt_eq_toNat_of_lt (by rw [e]; show 2 * (lu z % 128) < 4294967296; omega), e]
theorem bitCount_is (z : Int) (s : gS) : Long_bitCount z s = some (((nS (lb z) 64 : Nat) : Int), s) := by
  unfold Long_bitCount
  simp only [g_le_s]
  generalize e1 : z - l_and (l_ushr z 1) 6148914691236517205 = v1
  generalize e2 : l_and v1 3689348814741910323 + l_and (l_ushr v1 2) 3689348814741910323 = v2
  generalize e3 : l_and (v2 + l_ushr v2 4) 1085102592571150095 = v3
  generalize e4 : v3 + l_ushr v3 8 = v4
  generalize e5 : v4 + l_ushr v4 16 = v5
  generalize e6 : v5 + l_ushr v5 32 = v6
  have u1 : lu v1 = lu z - ((lu z / 2) &&& 6148914691236517205) := by
    have k : lu (l_and (l_ushr z 1) 6148914691236517205) = (lu z / 2) &&& 6148914691236517205 := by
      rw [lu_and, show l_ushr z 1 = l_ushr z ((1 : Nat) : Int) from rfl, lu_ushr z (by decide)]
      rfl
    rw [← e1, lu_sub, k]
    rw [k]
    exact Nat.le_trans Nat.and_le_left (by omega)
  have u2 : lu v2 = (lu v1 &&& 3689348814741910323) + ((lu v1 / 4) &&& 3689348814741910323) := by
    have k : lu (l_and v1 3689348814741910323) = lu v1 &&& 3689348814741910323 := by
      rw [lu_and]
      rfl
    have k' : lu (l_and (l_ushr v1 2) 3689348814741910323) = (lu v1 / 4) &&& 3689348814741910323 := by
      rw [lu_and, show l_ushr v1 2 = l_ushr v1 ((2 : Nat) : Int) from rfl, lu_ushr v1 (by decide)]
      rfl
    rw [← e2, lu_add, k, k']
    rw [k, k']
    have := Nat.and_le_right (n := lu v1) (m := 3689348814741910323)
    have := Nat.and_le_right (n := lu v1 / 4) (m := 3689348814741910323)
    omega
  have b2 : lu v2 ≤ 7378697629483820646 := by
    have := Nat.and_le_right (n := lu v1) (m := 3689348814741910323)
    have := Nat.and_le_right (n := lu v1 / 4) (m := 3689348814741910323)
    omega
  have u3 : lu v3 = (lu v2 + lu v2 / 16) &&& 1085102592571150095 := by
    have k : lu (l_ushr v2 4) = lu v2 / 16 := by
      rw [show l_ushr v2 4 = l_ushr v2 ((4 : Nat) : Int) from rfl, lu_ushr v2 (by decide)]
    rw [← e3, lu_and, lu_add, k]
    · rfl
    · rw [k]; omega
  have b3 : lu v3 ≤ 1085102592571150095 := by rw [u3]; exact Nat.and_le_right
  have u4 : lu v4 = lu v3 + lu v3 / 256 := by
    have k : lu (l_ushr v3 8) = lu v3 / 256 := by
      rw [show l_ushr v3 8 = l_ushr v3 ((8 : Nat) : Int) from rfl, lu_ushr v3 (by decide)]
    rw [← e4, lu_add, k]
    rw [k]; omega
  have u5 : lu v5 = lu v4 + lu v4 / 65536 := by
    have k : lu (l_ushr v4 16) = lu v4 / 65536 := by
      rw [show l_ushr v4 16 = l_ushr v4 ((16 : Nat) : Int) from rfl, lu_ushr v4 (by decide)]
    rw [← e5, lu_add, k]
    rw [k]; omega
  have u6 : lu v6 = lu v5 + lu v5 / 4294967296 := by
    have k : lu (l_ushr v5 32) = lu v5 / 4294967296 := by
      rw [show l_ushr v5 32 = l_ushr v5 ((32 : Nat) : Int) from rfl, lu_ushr v5 (by decide)]
    rw [← e6, lu_add, k]
    rw [k]; omega
  have f : lu v6 % 128 = pop (lu z) := by
    rw [u6, u5, u4, u3, u2, u1]
    rfl
  rw [i_and127, f, pop_is (lu_lt z)]
  rfl

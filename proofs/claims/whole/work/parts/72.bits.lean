/-! longs as rows of bits -/
def lB (z : Int) : BitVec 64 := BitVec.ofInt 64 z
def lb (z : Int) (k : Nat) : Bool := (lB z).getLsbD k
theorem lB_64 (x : Int64) : lB x.toInt = x.toBitVec := by
  show BitVec.ofInt 64 x.toBitVec.toInt = _
  rw [BitVec.ofInt_toInt]
theorem lB_of (x : Int) : (Int64.ofInt x).toBitVec = lB x := rfl
theorem lB_and (x y : Int) : lB (l_and x y) = lB x &&& lB y := by unfold l_and; rw [lB_64]; rfl
theorem lB_or (x y : Int) : lB (l_or x y) = lB x ||| lB y := by unfold l_or; rw [lB_64]; rfl
theorem lB_xor (x y : Int) : lB (l_xor x y) = lB x ^^^ lB y := by unfold l_xor; rw [lB_64]; rfl
theorem lb_and (x y : Int) (k : Nat) : lb (l_and x y) k = (lb x k && lb y k) := by unfold lb; rw [lB_and, BitVec.getLsbD_and]
theorem lb_or (x y : Int) (k : Nat) : lb (l_or x y) k = (lb x k || lb y k) := by unfold lb; rw [lB_or, BitVec.getLsbD_or]
theorem lb_not (x : Int) {k : Nat} (hk : k < 64) : lb (l_xor x (-1)) k = !lb x k := by
  unfold lb
  rw [lB_xor, BitVec.getLsbD_xor, show lB (-1) = BitVec.allOnes 64 by decide, BitVec.getLsbD_allOnes, decide_eq_true hk]
  simp
theorem sh_arg : ∀ y : Fin 64, ((Int32.ofInt (y : Nat)).toInt64.toUInt64 &&& Int64.toUInt64 63) = UInt64.ofNat y ∧ ((Int32.ofInt (y : Nat)).toInt64 &&& 63) = Int64.ofNat y := by decide
theorem lB_ushr (x : Int) {n : Nat} (hn : n < 64) : lB (l_ushr x n) = lB x >>> n := by
  unfold l_ushr
  rw [lB_64, (sh_arg ⟨n, hn⟩).1]
  show (BitVec.ofInt 64 x >>> ((BitVec.ofNat 64 n) % 64)) = _
  have e : ((BitVec.ofNat 64 n) % (64 : BitVec 64)).toNat = n := by
    rw [BitVec.toNat_umod, BitVec.toNat_ofNat]
    show n % 18446744073709551616 % 64 = n
    omega
  rw [BitVec.ushiftRight_eq', e]
  rfl
theorem lb_ushr (x : Int) {n : Nat} (hn : n < 64) (k : Nat) : lb (l_ushr x n) k = lb x (n + k) := by
  unfold lb
  rw [lB_ushr x hn, BitVec.getLsbD_ushiftRight]
theorem lB_shl (x : Int) {n : Nat} (hn : n < 64) : lB (l_shl x n) = lB x <<< n := by
  unfold l_shl
  rw [lB_64, (sh_arg ⟨n, hn⟩).2]
  show (BitVec.ofInt 64 x <<< ((Int64.ofNat n).toBitVec.smod 64)) = _
  rw [BitVec.shiftLeft_eq']
  congr 1
  revert n
  decide
theorem lB_shr (x : Int) {n : Nat} (hn : n < 64) : lB (l_shr x n) = (lB x).sshiftRight n := by
  unfold l_shr
  rw [lB_64, (sh_arg ⟨n, hn⟩).2]
  show ((BitVec.ofInt 64 x).sshiftRight' ((Int64.ofNat n).toBitVec.smod 64)) = _
  rw [BitVec.sshiftRight']
  congr 1
  revert n
  decide
theorem lB_eq {x y : Int} : w64 x = w64 y ↔ lB x = lB y := by
  rw [← w64_eq, ← Int64.toBitVec_inj]
  rfl

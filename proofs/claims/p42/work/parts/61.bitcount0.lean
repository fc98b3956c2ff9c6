/-! the number of bits, as the library counts it -/
theorem bt_nat (k i : Nat) (hi : i < 32) : bt (i32 k) i = k.testBit i := by
  unfold bt
  show (BitVec.ofNat 32 k).getLsbD i = _
  rw [BitVec.getLsbD_ofNat]
  simp [hi]
theorem and_n (a b : Nat) : i32 a &&& i32 b = i32 (a &&& b) := by
  apply b_ext
  intro i hi
  rw [b_and, bt_nat a i hi, bt_nat b i hi, bt_nat _ i hi, Nat.testBit_and]
theorem ush_n {a : Nat} (ha : a < 4294967296) {j : Nat} (hj : j < 32) : iushr (i32 a) (i32 j) = i32 (a >>> j) := by
  apply b_ext
  intro i hi
  rw [b_ushr j hj, bt_nat _ i hi, Nat.testBit_shiftRight]
  by_cases c : j + i < 32
  · rw [bt_nat a _ c]
  · rw [b_big (by omega)]
    symm
    apply Nat.testBit_lt_two_pow
    have : 2 ^ 32 ≤ 2 ^ (j + i) := Nat.pow_le_pow_right (by omega) (by omega)
    omega
def bc1 (k : Nat) : Nat := k - ((k >>> 1) &&& 1431655765)
def bc2 (k : Nat) : Nat := (k &&& 858993459) + ((k >>> 2) &&& 858993459)
def bc3 (k : Nat) : Nat := (k + (k >>> 4)) &&& 252645135
def bc4 (k : Nat) : Nat := k + (k >>> 8)
def bc5 (k : Nat) : Nat := (k + (k >>> 16)) &&& 63
def pc8 (k : Nat) : Nat := (k &&& 1) + ((k >>> 1) &&& 1) + ((k >>> 2) &&& 1) + ((k >>> 3) &&& 1) + ((k >>> 4) &&& 1) + ((k >>> 5) &&& 1) + ((k >>> 6) &&& 1) + ((k >>> 7) &&& 1)
theorem bc_all : ∀ h, h < 256 → ∀ l, l < 256 → bc5 (bc4 (bc3 (bc2 (bc1 (256 * h + l))))) = pc8 h + pc8 l := by decide +kernel

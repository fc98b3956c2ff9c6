theorem bc_n {k : Nat} (hk : k < 65536) : s_J6_bitCount_0f7a4 (i32 k) = i32 (bc5 (bc4 (bc3 (bc2 (bc1 k))))) := by
  have l1 : (k >>> 1) &&& 1431655765 ≤ k := Nat.le_trans Nat.and_le_left (by rw [Nat.shiftRight_eq_div_pow]; omega)
  have e1 : i32 k - ((iushr (i32 k) (1 : Int32)) &&& (1431655765 : Int32)) = i32 (bc1 k) := by
    rw [show iushr (i32 k) (1 : Int32) = i32 (k >>> 1) from ush_n (j := 1) (by omega) (by omega), show (1431655765 : Int32) = i32 1431655765 from rfl, and_n, i32_sub l1]; rfl
  have b1 : bc1 k < 65536 := by unfold bc1; omega
  have e2 : (i32 (bc1 k) &&& (858993459 : Int32)) + ((iushr (i32 (bc1 k)) (2 : Int32)) &&& (858993459 : Int32)) = i32 (bc2 (bc1 k)) := by
    rw [show iushr (i32 (bc1 k)) (2 : Int32) = i32 (bc1 k >>> 2) from ush_n (j := 2) (by omega) (by omega), show (858993459 : Int32) = i32 858993459 from rfl, and_n, and_n, i32_add]; rfl
  have b2 : bc2 (bc1 k) < 131072 := by
    unfold bc2
    have q1 := Nat.and_le_left (n := bc1 k) (m := 858993459)
    have q2 := Nat.and_le_left (n := bc1 k >>> 2) (m := 858993459)
    have q3 : bc1 k >>> 2 ≤ bc1 k := by rw [Nat.shiftRight_eq_div_pow]; omega
    omega
  have e3 : (i32 (bc2 (bc1 k)) + (iushr (i32 (bc2 (bc1 k))) (4 : Int32))) &&& (252645135 : Int32) = i32 (bc3 (bc2 (bc1 k))) := by
    rw [show iushr (i32 (bc2 (bc1 k))) (4 : Int32) = i32 (bc2 (bc1 k) >>> 4) from ush_n (j := 4) (by omega) (by omega), i32_add, show (252645135 : Int32) = i32 252645135 from rfl, and_n]; rfl
  have b3 : bc3 (bc2 (bc1 k)) < 262144 := by
    unfold bc3
    have q1 := Nat.and_le_left (n := bc2 (bc1 k) + bc2 (bc1 k) >>> 4) (m := 252645135)
    have q3 : bc2 (bc1 k) >>> 4 ≤ bc2 (bc1 k) := by rw [Nat.shiftRight_eq_div_pow]; omega
    omega
  have e4 : i32 (bc3 (bc2 (bc1 k))) + (iushr (i32 (bc3 (bc2 (bc1 k)))) (8 : Int32)) = i32 (bc4 (bc3 (bc2 (bc1 k)))) := by
    rw [show iushr (i32 (bc3 (bc2 (bc1 k)))) (8 : Int32) = i32 (bc3 (bc2 (bc1 k)) >>> 8) from ush_n (j := 8) (by omega) (by omega), i32_add]; rfl
  have b4 : bc4 (bc3 (bc2 (bc1 k))) < 524288 := by
    unfold bc4
    have q3 : bc3 (bc2 (bc1 k)) >>> 8 ≤ bc3 (bc2 (bc1 k)) := by rw [Nat.shiftRight_eq_div_pow]; omega
    omega
  unfold s_J6_bitCount_0f7a4
  rw [e1, e2, e3, e4, show iushr (i32 (bc4 (bc3 (bc2 (bc1 k))))) (16 : Int32) = i32 (bc4 (bc3 (bc2 (bc1 k))) >>> 16) from ush_n (j := 16) (by omega) (by omega), i32_add, show (63 : Int32) = i32 63 from rfl, and_n]; rfl
theorem bit01 (k j : Nat) : (k >>> j) &&& 1 = if k.testBit j then 1 else 0 := by
  have h : k.testBit j = decide ((k >>> j) % 2 = 1) := by
    rw [Nat.testBit_eq_decide_div_mod_eq, Nat.shiftRight_eq_div_pow]
  rw [h, Nat.and_one_is_mod]
  by_cases c : (k >>> j) % 2 = 1
  · simp [c]
  · simp [c]; omega
theorem pc_sum (k : Nat) (hk : k < 65536) : pc8 (k / 256) + pc8 (k % 256) = sumr 16 (fun j => if k.testBit j then 1 else 0) := by
  have lo : ∀ j, j < 8 → ((k % 256) >>> j) &&& 1 = if k.testBit j then 1 else 0 := by
    intro j hj
    rw [bit01]
    have : (k % 256).testBit j = k.testBit j := by
      rw [show 256 = 2 ^ 8 from rfl, Nat.testBit_mod_two_pow]; simp [hj]
    rw [this]
  have hi : ∀ j, ((k / 256) >>> j) &&& 1 = if k.testBit (8 + j) then 1 else 0 := by
    intro j
    rw [bit01]
    have : (k / 256).testBit j = k.testBit (8 + j) := by
      rw [show 256 = 2 ^ 8 from rfl, ← Nat.shiftRight_eq_div_pow, Nat.testBit_shiftRight]
    rw [this]
  have l0 := lo 0 (by omega); have l1 := lo 1 (by omega); have l2 := lo 2 (by omega); have l3 := lo 3 (by omega)
  have l4 := lo 4 (by omega); have l5 := lo 5 (by omega); have l6 := lo 6 (by omega); have l7 := lo 7 (by omega)
  have h0 : ((k / 256) >>> 0) &&& 1 = if k.testBit 8 then 1 else 0 := hi 0
  have h1 : ((k / 256) >>> 1) &&& 1 = if k.testBit 9 then 1 else 0 := hi 1
  have h2 : ((k / 256) >>> 2) &&& 1 = if k.testBit 10 then 1 else 0 := hi 2
  have h3 : ((k / 256) >>> 3) &&& 1 = if k.testBit 11 then 1 else 0 := hi 3
  have h4 : ((k / 256) >>> 4) &&& 1 = if k.testBit 12 then 1 else 0 := hi 4
  have h5 : ((k / 256) >>> 5) &&& 1 = if k.testBit 13 then 1 else 0 := hi 5
  have h6 : ((k / 256) >>> 6) &&& 1 = if k.testBit 14 then 1 else 0 := hi 6
  have h7 : ((k / 256) >>> 7) &&& 1 = if k.testBit 15 then 1 else 0 := hi 7
  rw [Nat.shiftRight_zero] at l0 h0
  simp only [pc8, sumr]
  rw [l0, l1, l2, l3, l4, l5, l6, l7, h0, h1, h2, h3, h4, h5, h6, h7]
  omega
/-- the bits of a number below 2^16 -/
theorem bitcount {x : Int32} {Q : Nat → Prop} (h : ∀ j, j < 32 → bt x j = dB (Q j)) (hQ : ∀ j, Q j → j < 16) : s_J6_bitCount_0f7a4 x = i32 (sumr 16 (fun j => ind (Q j))) := by
  have x0 : 0 ≤ x := by
    have := h 31 (by omega)
    rw [dB_f (fun q => by have := hQ 31 q; omega), b_31] at this
    have := of_decide_eq_false this
    rw [Int32.le_iff_toInt_le, Int32.toInt_zero]; omega
  obtain ⟨k, hk, rfl⟩ := i32_of x0
  have kt : ∀ j, j < 32 → k.testBit j = dB (Q j) := fun j hj => by rw [← bt_nat k j hj]; exact h j hj
  have k16 : k < 65536 := by
    have : k < 2 ^ 16 := Nat.lt_pow_two_of_testBit k (fun i hi => by
      by_cases c : i < 32
      · rw [kt i c]; exact dB_f (fun q => by have := hQ i q; omega)
      · apply Nat.testBit_lt_two_pow
        have : 2 ^ 32 ≤ 2 ^ i := Nat.pow_le_pow_right (by omega) (by omega)
        omega)
    exact this
  have := bc_all (k / 256) (by omega) (k % 256) (by omega)
  rw [show 256 * (k / 256) + k % 256 = k by omega] at this
  rw [bc_n k16, this, pc_sum k k16]
  congr 1
  apply sumr_ext
  intro j hj
  rw [kt j (by omega)]
  rcases ind_c (Q j) with ⟨c, e⟩ | ⟨c, e⟩
  · rw [e, dB_t c]; rfl
  · rw [e, dB_f c]; rfl

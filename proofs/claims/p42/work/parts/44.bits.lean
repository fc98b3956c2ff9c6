/-! numbers by their bits (the first rows began as the kit's rows to paste) -/
def bt (x : Int32) (i : Nat) : Bool := x.toBitVec.getLsbD i
theorem b_ext {x y : Int32} (h : ∀ i, i < 32 → bt x i = bt y i) : x = y := Int32.toBitVec_inj.mp (BitVec.eq_of_getLsbD_eq (fun i hi => h i hi))
theorem b_or (x y : Int32) (i : Nat) : bt (x ||| y) i = (bt x i || bt y i) := by unfold bt; rw [Int32.toBitVec_or, BitVec.getLsbD_or]
theorem b_and (x y : Int32) (i : Nat) : bt (x &&& y) i = (bt x i && bt y i) := by unfold bt; rw [Int32.toBitVec_and, BitVec.getLsbD_and]
theorem b_xor (x y : Int32) (i : Nat) : bt (x ^^^ y) i = (bt x i ^^ bt y i) := by unfold bt; rw [Int32.toBitVec_xor, BitVec.getLsbD_xor]
theorem b_big {x : Int32} {i : Nat} (h : 32 ≤ i) : bt x i = false := BitVec.getLsbD_of_ge _ _ h
theorem b_m1 : ∀ i, i < 32 → bt (-1) i = true := by decide +kernel
theorem b_0 (i : Nat) : bt 0 i = false := BitVec.getLsbD_zero
theorem b_1 (i : Nat) : bt 1 i = decide (i = 0) := by
  rcases Nat.lt_or_ge i 32 with h | h
  · exact (by decide +kernel : ∀ i, i < 32 → bt 1 i = decide (i = 0)) i h
  · rw [b_big h, decide_eq_false (by omega)]
theorem b_l32 : ∀ n, n < 32 → ((i32 n &&& 31).toBitVec.smod 32).toNat = n := by decide +kernel
theorem b_u32 : ∀ n, n < 32 → (((i32 n).toUInt32 &&& Int32.toUInt32 31).toBitVec % 32).toNat = n := by decide +kernel
theorem b_shl (n : Nat) (hn : n < 32) (x : Int32) {i : Nat} (hi : i < 32) : bt (x <<< (i32 n &&& 31)) i = (decide (n ≤ i) && bt x (i - n)) := by
  unfold bt
  rw [Int32.toBitVec_shiftLeft]
  show (x.toBitVec <<< ((i32 n &&& 31).toBitVec.smod 32).toNat).getLsbD i = _
  rw [b_l32 n hn, BitVec.getLsbD_shiftLeft]
  rcases Nat.lt_or_ge i n with h | h
  · simp [h, Nat.not_le.mpr h]
  · simp [hi, h, Nat.not_lt.mpr h]
theorem b_ushr (n : Nat) (hn : n < 32) (x : Int32) (i : Nat) : bt (iushr x (i32 n)) i = bt x (n + i) := by
  show (x.toUInt32 >>> ((i32 n).toUInt32 &&& Int32.toUInt32 31)).toBitVec.getLsbD i = x.toUInt32.toBitVec.getLsbD (n + i)
  rw [UInt32.toBitVec_shiftRight]
  show (x.toUInt32.toBitVec >>> (((i32 n).toUInt32 &&& Int32.toUInt32 31).toBitVec % 32).toNat).getLsbD i = _
  rw [b_u32 n hn, BitVec.getLsbD_ushiftRight]
theorem b_sshr (n : Nat) (hn : n < 32) (x : Int32) {i : Nat} (hi : i < 32) : bt (x >>> (i32 n &&& 31)) i = if n + i < 32 then bt x (n + i) else bt x 31 := by
  unfold bt
  rw [Int32.toBitVec_shiftRight]
  show (x.toBitVec.sshiftRight ((i32 n &&& 31).toBitVec.smod 32).toNat).getLsbD i = _
  rw [b_l32 n hn, BitVec.getLsbD_sshiftRight, BitVec.msb_eq_getLsbD_last]
  simp [hi]
theorem b_bit (x : Int32) {j : Nat} (hj : j < 32) (i : Nat) : bt (x ||| ((1 : Int32) <<< (i32 j &&& 31))) i = (bt x i || decide (i = j)) := by
  rcases Nat.lt_or_ge i 32 with h | h
  · rw [b_or, b_shl j hj 1 h, b_1]
    congr 1
    by_cases c : i = j
    · subst c; simp
    · by_cases d : j ≤ i
      · rw [decide_eq_false (show ¬ (i - j = 0) by omega), decide_eq_false c]; simp
      · rw [decide_eq_false d, decide_eq_false c]; simp
  · rw [b_big h, b_big h, decide_eq_false (by omega)]; rfl
theorem b_clr (x : Int32) {j : Nat} (hj : j < 32) {i : Nat} (h : i < 32) : bt (x &&& (((1 : Int32) <<< (i32 j &&& 31)) ^^^ (-1 : Int32))) i = (bt x i && !decide (i = j)) := by
  rw [b_and, b_xor, b_shl j hj 1 h, b_1, b_m1 i h]
  congr 1
  by_cases c : i = j
  · subst c; simp
  · by_cases d : j ≤ i
    · rw [decide_eq_false (show ¬ (i - j = 0) by omega), decide_eq_false c]; simp
    · rw [decide_eq_false d, decide_eq_false c]; simp
theorem b_zero (x : Int32) : x = 0 ↔ ∀ i, i < 32 → bt x i = false := by
  constructor
  · intro h i _; rw [h, b_0]
  · intro h; exact b_ext (fun i hi => by rw [h i hi, b_0])
theorem b_and1 (x : Int32) : (x &&& (1 : Int32)) = 0 ↔ bt x 0 = false := by
  rw [b_zero]
  constructor
  · intro h
    have := h 0 (by omega)
    rw [b_and, b_1] at this
    simpa using this
  · intro h i hi
    rw [b_and, b_1]
    by_cases c : i = 0
    · subst c; rw [h]; rfl
    · simp [c]
theorem b_test (x : Int32) {j : Nat} (hj : j < 32) : ((x >>> (i32 j &&& 31)) &&& (1 : Int32)) = 0 ↔ bt x j = false := by
  rw [b_and1, b_sshr j hj x (by omega)]
  simp [hj]
theorem b_31 (x : Int32) : bt x 31 = decide (x.toInt < 0) := by
  unfold bt
  have h := BitVec.msb_eq_getLsbD_last x.toBitVec
  have h2 := BitVec.msb_eq_toInt (x := x.toBitVec)
  exact h.symm.trans h2
/-- the sign of a number -/
def sg (z : Int) : Int32 := if z < 0 then -1 else if z = 0 then 0 else 1
theorem sg_p {z : Int} (h : 0 < z) : sg z = 1 := by unfold sg; rw [if_neg (by omega), if_neg (by omega)]
theorem sg_z {z : Int} (h : z = 0) : sg z = 0 := by unfold sg; rw [if_neg (by omega), if_pos h]
theorem sg_n {z : Int} (h : z < 0) : sg z = -1 := by unfold sg; rw [if_pos h]
theorem sg_lt (z : Int) : sg z < 0 ↔ z < 0 := by
  rcases Int.lt_trichotomy z 0 with h | h | h
  · rw [sg_n h]; exact ⟨fun _ => h, fun _ => by decide⟩
  · rw [sg_z h]; exact ⟨fun k => absurd k (by decide), fun k => by omega⟩
  · rw [sg_p h]; exact ⟨fun k => absurd k (by decide), fun k => by omega⟩
theorem sg_0 (z : Int) : sg z = 0 ↔ z = 0 := by
  rcases Int.lt_trichotomy z 0 with h | h | h
  · rw [sg_n h]; exact ⟨fun k => absurd k (by decide), fun k => by omega⟩
  · rw [sg_z h]; exact ⟨fun _ => h, fun _ => rfl⟩
  · rw [sg_p h]; exact ⟨fun k => absurd k (by decide), fun k => by omega⟩
theorem sg_ge (z : Int) : 0 ≤ sg z ↔ 0 ≤ z := by
  rcases Int.lt_trichotomy z 0 with h | h | h
  · rw [sg_n h]; exact ⟨fun k => absurd k (by decide), fun k => by omega⟩
  · rw [sg_z h]; exact ⟨fun _ => by omega, fun _ => by decide⟩
  · rw [sg_p h]; exact ⟨fun _ => by omega, fun _ => by decide⟩
theorem sg_le (z : Int) : sg z ≤ 0 ↔ z ≤ 0 := by
  rcases Int.lt_trichotomy z 0 with h | h | h
  · rw [sg_n h]; exact ⟨fun k => by omega, fun k => by decide⟩
  · rw [sg_z h]; exact ⟨fun _ => by omega, fun _ => by decide⟩
  · rw [sg_p h]; exact ⟨fun k => absurd k (by decide), fun k => by omega⟩
theorem sg_mul (x y : Int) : sg x * sg y = sg (x * y) := by
  rcases Int.lt_trichotomy x 0 with h | h | h <;> rcases Int.lt_trichotomy y 0 with k | k | k
  · rw [sg_n h, sg_n k, sg_p (m_NN h k)]; decide
  · rw [sg_n h, sg_z k, sg_z (m__Z x k)]; decide
  · rw [sg_n h, sg_p k, sg_n (m_NP h k)]; decide
  · rw [sg_z h, sg_n k, sg_z (m_Z_ y h)]; decide
  · rw [sg_z h, sg_z k, sg_z (m__Z x k)]; decide
  · rw [sg_z h, sg_p k, sg_z (m_Z_ y h)]; decide
  · rw [sg_p h, sg_n k, sg_n (m_PN h k)]; decide
  · rw [sg_p h, sg_z k, sg_z (m__Z x k)]; decide
  · rw [sg_p h, sg_p k, sg_p (m_PP h k)]; decide
theorem sg_pm {x y : Int} (h : y ≠ 0) (k : sg (x * y) = sg x) : True := trivial
theorem sgOf (z : Int64) : s_Top_signOf z = sg z.toInt := by
  unfold s_Top_signOf lg_cmp
  rcases Int.lt_trichotomy z.toInt 0 with h | h | h
  · have h1 : ¬ (z > 0) := fun k => by have := Int64.lt_iff_toInt_lt.1 k; rw [Int64.toInt_zero] at this; omega
    have h2 : ¬ (z = 0) := fun k => by rw [k, Int64.toInt_zero] at h; omega
    rw [if_neg h1, if_neg h2, sg_n h]; decide
  · have h2 : z = 0 := Int64.toInt_inj.1 (by rw [h, Int64.toInt_zero])
    rw [h2]; decide
  · have h1 : z > 0 := Int64.lt_iff_toInt_lt.2 (by rw [Int64.toInt_zero]; exact h)
    rw [if_pos h1, sg_p h]; decide
theorem sgn32 (a : Int32) : s_J6_signum_0f7a4 a = sg a.toInt := by
  have q1 : ∀ i, i < 32 → bt (a >>> ((31 : Int32) &&& 31)) i = if 31 + i < 32 then bt a (31 + i) else bt a 31 := fun i hi => b_sshr 31 (by omega) a hi
  have q2 : ∀ i, bt (iushr (-a) (31 : Int32)) i = bt (-a) (31 + i) := fun i => b_ushr 31 (by omega) (-a) i
  unfold s_J6_signum_0f7a4
  rcases Int.lt_trichotomy a.toInt 0 with h | h | h
  · rw [sg_n h]
    apply b_ext
    intro i hi
    rw [b_or, q1 i hi, b_m1 i hi, b_31, decide_eq_true h]
    by_cases c : 31 + i < 32
    · have : i = 0 := by omega
      subst this
      rw [if_pos c, b_31, decide_eq_true h]; rfl
    · rw [if_neg c]; rfl
  · have h2 : a = 0 := Int32.toInt_inj.1 (by rw [h, Int32.toInt_zero])
    rw [h2]; decide
  · rw [sg_p h]
    have hn : (-a).toInt < 0 := by
      have h3 := Int32.toInt_lt a
      rw [Int32.toInt_neg, bm (by omega) (by omega)]; omega
    apply b_ext
    intro i hi
    rw [b_or, q1 i hi, q2 i, b_1, b_31, decide_eq_false (by omega)]
    by_cases c : i = 0
    · subst c
      have q3 : bt (-a) (31 + 0) = true := (b_31 (-a)).trans (decide_eq_true hn)
      rw [q3, Bool.or_true]; rfl
    · rw [b_big (x := -a) (by omega), if_neg (by omega), decide_eq_false c]; rfl
theorem b64_31 (x : Int64) : x.toBitVec.getLsbD 63 = decide (x.toInt < 0) := by
  have h := BitVec.msb_eq_getLsbD_last x.toBitVec
  have h2 := BitVec.msb_eq_toInt (x := x.toBitVec)
  exact h.symm.trans h2
theorem b64_t (x : Int64) {i : Nat} (h : i < 32) : bt x.toInt32 i = x.toBitVec.getLsbD i := by
  unfold bt
  show (x.toBitVec.signExtend 32).getLsbD i = _
  rw [BitVec.getLsbD_signExtend]
  simp [h, show i < 64 by omega]
theorem sgn64 (a : Int64) : s_J13_signum_95d88 a = sg a.toInt := by
  unfold s_J13_signum_95d88
  have r1 : ∀ i, i < 32 → (lshr a (63 : Int32)).toBitVec.getLsbD i = if i = 0 then a.toBitVec.getLsbD 63 else a.toBitVec.getLsbD 63 := by
    intro i hi
    unfold lshr
    rw [Int64.toBitVec_shiftRight]
    show (a.toBitVec.sshiftRight ((((63 : Int32).toInt64 &&& 63).toBitVec.smod 64).toNat)).getLsbD i = _
    have e : (((63 : Int32).toInt64 &&& 63).toBitVec.smod 64).toNat = 63 := by decide
    rw [e, BitVec.getLsbD_sshiftRight, BitVec.msb_eq_getLsbD_last]
    by_cases c : i = 0
    · subst c; simp
    · rw [if_neg c]
      simp [show i < 64 by omega, show ¬ (63 + i < 64) by omega]
  have r2 : ∀ i, (lushr (-a) (63 : Int32)).toBitVec.getLsbD i = (-a).toBitVec.getLsbD (63 + i) := by
    intro i
    unfold lushr
    show ((-a).toUInt64 >>> ((63 : Int32).toInt64.toUInt64 &&& Int64.toUInt64 63)).toBitVec.getLsbD i = _
    rw [UInt64.toBitVec_shiftRight]
    show ((-a).toBitVec >>> ((((63 : Int32).toInt64.toUInt64 &&& Int64.toUInt64 63).toBitVec % 64).toNat)).getLsbD i = _
    have e : (((63 : Int32).toInt64.toUInt64 &&& Int64.toUInt64 63).toBitVec % 64).toNat = 63 := by decide
    rw [e, BitVec.getLsbD_ushiftRight]
  have r0 : ∀ i, i < 32 → bt ((lshr a (63 : Int32)) ||| (lushr (-a) (63 : Int32))).toInt32 i = (a.toBitVec.getLsbD 63 || (-a).toBitVec.getLsbD (63 + i)) := by
    intro i hi
    rw [b64_t _ hi, Int64.toBitVec_or, BitVec.getLsbD_or, r1 i hi, r2 i]
    by_cases c : i = 0
    · rw [if_pos c]
    · rw [if_neg c]
  rcases Int.lt_trichotomy a.toInt 0 with h | h | h
  · rw [sg_n h]
    apply b_ext
    intro i hi
    rw [r0 i hi, b64_31, decide_eq_true h, b_m1 i hi]; rfl
  · have h2 : a = 0 := Int64.toInt_inj.1 (by rw [h, Int64.toInt_zero])
    rw [h2]; decide
  · rw [sg_p h]
    have hn : (-a).toInt < 0 := by
      have h3 := Int64.toInt_lt a
      have e64 : (((2 : Nat) ^ 64 : Nat) : Int) = 18446744073709551616 := by decide
      rw [Int64.toInt_neg, Int.bmod_def, e64]
      split <;> omega
    apply b_ext
    intro i hi
    rw [r0 i hi, b64_31, decide_eq_false (by omega), b_1]
    by_cases c : i = 0
    · subst c
      rw [show 63 + 0 = 63 from rfl, b64_31, decide_eq_true hn]; rfl
    · rw [BitVec.getLsbD_of_ge _ _ (by omega), decide_eq_false c]; rfl

/-! quotients of small whole numbers are numbers -/
theorem k_tails : Jvm.FP.Core.b64.tails = 4503599627370496 := by decide
theorem k_exps : Jvm.FP.Core.b64.exps = 2048 := by decide
theorem k_qmin : Jvm.FP.Core.b64.qmin = -1074 := by decide
theorem k_qmax : Jvm.FP.Core.b64.qmax = 971 := by decide
theorem k_p : (2 : Nat) ^ Jvm.FP.Core.b64.p = 9007199254740992 := by decide
theorem enc_fin {c : Nat} {q : Int} (h1 : c < 9007199254740992) (h2 : -1074 ≤ q) (h3 : q ≤ 971) :
    Jvm.FP.Core.encode Jvm.FP.Core.b64 (.fin false c q) ≤ 9218868437227405312 := by
  show (if c < Jvm.FP.Core.b64.tails then Jvm.FP.Core.assemble Jvm.FP.Core.b64 false 0 c else Jvm.FP.Core.assemble Jvm.FP.Core.b64 false ((q - Jvm.FP.Core.b64.qmin).toNat + 1) (c - Jvm.FP.Core.b64.tails)) ≤ _
  unfold Jvm.FP.Core.assemble
  rw [k_tails, k_exps, k_qmin]
  by_cases c1 : c < 4503599627370496
  · rw [if_pos c1]
    show (0 * 2048 + 0) * 4503599627370496 + c ≤ _
    omega
  · rw [if_neg c1]
    show (0 * 2048 + ((q - -1074).toNat + 1)) * 4503599627370496 + (c - 4503599627370496) ≤ _
    omega
theorem enc_inf : Jvm.FP.Core.encode Jvm.FP.Core.b64 (.inf false) ≤ 9218868437227405312 := by decide
theorem enc_rr (A B : Nat) (e : Int) : Jvm.FP.Core.encode Jvm.FP.Core.b64 (Jvm.FP.Core.roundRatio Jvm.FP.Core.b64 false A B e) ≤ 9218868437227405312 := by
  unfold Jvm.FP.Core.roundRatio
  by_cases a : A = 0
  · rw [if_pos a, k_qmin]; exact enc_fin (by omega) (by omega) (by omega)
  · rw [if_neg a]
    unfold Jvm.FP.Core.roundAt
    have hq : -1074 ≤ Jvm.FP.Core.quantum Jvm.FP.Core.b64 A B e := by
      unfold Jvm.FP.Core.quantum
      rw [k_qmin]; exact Int.le_max_left _ _
    generalize Jvm.FP.Core.quantum Jvm.FP.Core.b64 A B e = q at hq
    generalize Jvm.FP.Core.nearest (Jvm.FP.Core.unitsNum A e q) (Jvm.FP.Core.unitsDen B e q) = c
    unfold Jvm.FP.Core.settle Jvm.FP.Core.bound
    rw [k_p, k_qmax, k_tails]
    by_cases c1 : c < 9007199254740992
    · rw [if_pos c1]
      by_cases c2 : q ≤ 971
      · rw [if_pos c2]; exact enc_fin c1 hq c2
      · rw [if_neg c2]; exact enc_inf
    · rw [if_neg c1]
      by_cases c2 : q + 1 ≤ 971
      · rw [if_pos c2]; exact enc_fin (by omega) (by omega) c2
      · rw [if_neg c2]; exact enc_inf
theorem ddiv_ok {x y : UInt64} {c d : Nat} {q r : Int} (hx : Jvm.FP.Core.decode Jvm.FP.Core.b64 x.toNat = .fin false c q) (hy : Jvm.FP.Core.decode Jvm.FP.Core.b64 y.toNat = .fin false d r) (hd : d ≠ 0) :
    ddivO x y = some (FP.ddiv x y) := by
  unfold ddivO
  rw [if_pos]
  have e : FP.ddiv x y = UInt64.ofNat (Jvm.FP.Core.encode Jvm.FP.Core.b64 (Jvm.FP.Core.roundRatio Jvm.FP.Core.b64 false c d (q - r))) := by
    show UInt64.ofNat (Jvm.FP.Core.encode Jvm.FP.Core.b64 (Jvm.FP.Core.quotient Jvm.FP.Core.b64 (Jvm.FP.Core.decode Jvm.FP.Core.b64 x.toNat) (Jvm.FP.Core.decode Jvm.FP.Core.b64 y.toNat))) = _
    rw [hx, hy]
    show UInt64.ofNat (Jvm.FP.Core.encode Jvm.FP.Core.b64 (if d = 0 then _ else Jvm.FP.Core.roundRatio Jvm.FP.Core.b64 (false != false) c d (q - r))) = _
    rw [if_neg hd]; rfl
  rw [e]
  have b := enc_rr c d (q - r)
  generalize Jvm.FP.Core.encode Jvm.FP.Core.b64 (Jvm.FP.Core.roundRatio Jvm.FP.Core.b64 false c d (q - r)) = N at b
  rw [UInt64.le_iff_toNat_le, UInt64.toNat_and, UInt64.toNat_ofNat_of_lt' (by have q_z : UInt64.size = 18446744073709551616 := rfl; omega)]
  have : N &&& (9223372036854775807 : UInt64).toNat ≤ N := Nat.and_le_left
  have e2 : (9218868437227405312 : UInt64).toNat = 9218868437227405312 := by decide
  rw [e2]
  exact Nat.le_trans this b
theorem i2d_0 : Jvm.FP.Core.decode Jvm.FP.Core.b64 (FP.i2d 0).toNat = .fin false 0 (-1074) := by decide +kernel
theorem i2d_n {v : Int32} {i : Nat} (hv : v.toInt = (i : Int)) (h0 : 0 < i) (h1 : i < 1048576) :
    ∃ c q, c ≠ 0 ∧ Jvm.FP.Core.decode Jvm.FP.Core.b64 (FP.i2d v).toNat = .fin false c q := by
  have l1 : 2 ^ i.log2 ≤ i := Nat.log2_self_le (by omega)
  have l2 : i < 2 ^ (i.log2 + 1) := Nat.lt_log2_self
  have l3 : i.log2 < 20 := by
    rcases Nat.lt_or_ge i.log2 20 with h | h
    · exact h
    · have : 2 ^ 20 ≤ 2 ^ i.log2 := Nat.pow_le_pow_right (by omega) h
      omega
  generalize hL : i.log2 = L at l1 l2 l3
  have C1 : 4503599627370496 ≤ i * 2 ^ (52 - L) := by
    have : 2 ^ L * 2 ^ (52 - L) = 4503599627370496 := by rw [← Nat.pow_add, show L + (52 - L) = 52 by omega]
    rw [← this]; exact Nat.mul_le_mul_right _ l1
  have C2 : i * 2 ^ (52 - L) < 9007199254740992 := by
    have : 2 ^ (L + 1) * 2 ^ (52 - L) = 9007199254740992 := by rw [← Nat.pow_add, show L + 1 + (52 - L) = 53 by omega]
    rw [← this]; exact Nat.mul_lt_mul_of_pos_right l2 (Nat.two_pow_pos _)
  have rr : Jvm.FP.Core.round Jvm.FP.Core.b64 (Jvm.FP.Core.ofInt v.toInt) = .fin false (i * 2 ^ (52 - L)) ((L : Int) - 52) := by
    rw [hv]
    show Jvm.FP.Core.roundRatio Jvm.FP.Core.b64 (decide ((i : Int) < 0)) ((i : Int).natAbs) 1 0 = _
    rw [decide_eq_false (by omega), Int.natAbs_natCast]
    unfold Jvm.FP.Core.roundRatio
    rw [if_neg (by omega)]
    have ld : Jvm.FP.Core.leading i 1 = (L : Int) := by
      unfold Jvm.FP.Core.leading
      rw [hL, show Nat.log2 1 = 0 from by decide]
      show (if 1 * 2 ^ ((L : Int) - ((0 : Nat) : Int)).toNat ≤ i * 2 ^ (-((L : Int) - ((0 : Nat) : Int))).toNat then (L : Int) - ((0 : Nat) : Int) else (L : Int) - ((0 : Nat) : Int) - 1) = _
      rw [show ((L : Int) - ((0 : Nat) : Int)).toNat = L by omega, show (-((L : Int) - ((0 : Nat) : Int))).toNat = 0 by omega, if_pos (by omega)]
      omega
    have qu : Jvm.FP.Core.quantum Jvm.FP.Core.b64 i 1 0 = (L : Int) - 52 := by
      unfold Jvm.FP.Core.quantum
      rw [ld, k_qmin, show ((Jvm.FP.Core.b64.p : Nat) : Int) = 53 from by decide]
      rw [Int.max_eq_right (by omega)]; omega
    rw [qu]
    unfold Jvm.FP.Core.roundAt Jvm.FP.Core.unitsNum Jvm.FP.Core.unitsDen
    rw [show (0 - ((L : Int) - 52)).toNat = 52 - L by omega, show ((L : Int) - 52 - 0).toNat = 0 by omega]
    have nr : Jvm.FP.Core.nearest (i * 2 ^ (52 - L)) (1 * 2 ^ 0) = i * 2 ^ (52 - L) := by
      unfold Jvm.FP.Core.nearest
      rw [show 1 * 2 ^ 0 = 1 from rfl, Nat.mod_one, if_pos (by omega), Nat.div_one]
    rw [nr]
    unfold Jvm.FP.Core.settle Jvm.FP.Core.bound
    rw [k_p, k_qmax, if_pos C2, if_pos (by omega)]
  generalize i * 2 ^ (52 - L) = C at C1 C2 rr
  refine ⟨C, (L : Int) - 52, by omega, ?_⟩
  have en : (FP.i2d v).toNat = (L + 1023) * 4503599627370496 + (C - 4503599627370496) := by
    show (UInt64.ofNat (Jvm.FP.Core.encode Jvm.FP.Core.b64 (Jvm.FP.Core.round Jvm.FP.Core.b64 (Jvm.FP.Core.ofInt v.toInt)))).toNat = _
    rw [rr]
    have : Jvm.FP.Core.encode Jvm.FP.Core.b64 (.fin false C ((L : Int) - 52)) = (L + 1023) * 4503599627370496 + (C - 4503599627370496) := by
      show (if C < Jvm.FP.Core.b64.tails then Jvm.FP.Core.assemble Jvm.FP.Core.b64 false 0 C else Jvm.FP.Core.assemble Jvm.FP.Core.b64 false (((L : Int) - 52 - Jvm.FP.Core.b64.qmin).toNat + 1) (C - Jvm.FP.Core.b64.tails)) = _
      unfold Jvm.FP.Core.assemble
      rw [k_tails, k_exps, k_qmin, if_neg (by omega)]
      show (0 * 2048 + (((L : Int) - 52 - -1074).toNat + 1)) * 4503599627370496 + (C - 4503599627370496) = _
      omega
    rw [this, UInt64.toNat_ofNat_of_lt' (by have q_z : UInt64.size = 18446744073709551616 := rfl; omega)]
  rw [en]
  unfold Jvm.FP.Core.decode Jvm.FP.Core.fieldE Jvm.FP.Core.fieldT Jvm.FP.Core.fieldS
  rw [k_tails, k_exps, k_qmin]
  have d1 : ((L + 1023) * 4503599627370496 + (C - 4503599627370496)) / 4503599627370496 = L + 1023 := by omega
  have d2 : ((L + 1023) * 4503599627370496 + (C - 4503599627370496)) % 4503599627370496 = C - 4503599627370496 := by omega
  rw [d1, d2, show (L + 1023) % 2048 = L + 1023 by omega, show (L + 1023) / 2048 = 0 by omega, if_neg (by omega), if_neg (by omega)]
  have e1 : 4503599627370496 + (C - 4503599627370496) = C := by omega
  have e2 : (-1074 : Int) + (((L + 1023 : Nat) : Int) - 1) = (L : Int) - 52 := by omega
  rw [e1, e2]; rfl
/-- the quotient of small whole numbers -/
theorem ddiv_n {u v : Int32} {i j : Nat} (hu : u.toInt = (i : Int)) (hv : v.toInt = (j : Int)) (hi : i < 1048576) (h0 : 0 < j) (hj : j < 1048576) :
    ddivO (FP.i2d u) (FP.i2d v) = some (FP.ddiv (FP.i2d u) (FP.i2d v)) := by
  obtain ⟨d, r, hd, hy⟩ := i2d_n hv h0 hj
  by_cases z : i = 0
  · have : u = 0 := by rw [← Int32.toInt_inj, hu, z]; rfl
    subst this
    exact ddiv_ok i2d_0 hy hd
  · obtain ⟨c, q, _, hx⟩ := i2d_n hu (by omega) hi
    exact ddiv_ok hx hy hd

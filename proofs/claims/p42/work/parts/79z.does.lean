/-! one act of the law -/
theorem some_ok (x : Int32) {N : Nat} (h0 : 0 < N) (hN : N < 1000) : ∃ a, a < N ∧ s_L_some x (i32 N) = some (i32 a) := by
  have b1 := Int32.le_toInt x
  have b2 := Int32.toInt_lt x
  have tN : (i32 N).toInt = (N : Int) := i32_ti (by omega)
  unfold s_L_some iremO
  rw [if_neg (fun z => by have := (i32_0 (by omega)).1 z; omega)]
  simp only [Option.bind_some]
  generalize hX : x.toInt = X at b1 b2
  by_cases s : 0 ≤ X
  · have n1 : 0 ≤ X / (N : Int) := Int.ediv_nonneg s (by omega)
    have n2 : X / (N : Int) ≤ X := Int.ediv_le_self _ s
    have n3 := Int.emod_nonneg X (b := (N : Int)) (by omega)
    have n4 := Int.emod_lt_of_pos X (b := (N : Int)) (by omega)
    have n5 := Int.emod_def X (N : Int)
    have n6 : (N : Int) * (X / (N : Int)) = X / (N : Int) * (N : Int) := Int.mul_comm _ _
    have d : (x / i32 N).toInt = X / (N : Int) := by rw [Int32.toInt_div, hX, tN, Int.tdiv_eq_ediv_of_nonneg s, bm (by omega) (by omega)]
    have e : (x / i32 N * i32 N).toInt = X / (N : Int) * (N : Int) := by rw [Int32.toInt_mul, d, tN, bm (by omega) (by omega)]
    have r : (x - x / i32 N * i32 N).toInt = X % (N : Int) := by rw [Int32.toInt_sub, e, hX, bm (by omega) (by omega)]; omega
    refine ⟨(X % (N : Int)).toNat, by omega, ?_⟩
    have f : x - x / i32 N * i32 N = i32 (X % (N : Int)).toNat := by rw [← Int32.toInt_inj, r, i32_ti (by omega)]; omega
    rw [f, if_neg (i32_neg (by omega))]
  · obtain ⟨Y, rfl⟩ : ∃ Y : Int, X = -Y := ⟨-X, by omega⟩
    have s : 0 ≤ Y := by omega
    have n1 : 0 ≤ Y / (N : Int) := Int.ediv_nonneg s (by omega)
    have n2 : Y / (N : Int) ≤ Y := Int.ediv_le_self _ s
    have n3 := Int.emod_nonneg Y (b := (N : Int)) (by omega)
    have n4 := Int.emod_lt_of_pos Y (b := (N : Int)) (by omega)
    have n5 := Int.emod_def Y (N : Int)
    have n6 : (N : Int) * (Y / (N : Int)) = Y / (N : Int) * (N : Int) := Int.mul_comm _ _
    have n7 : -(Y / (N : Int)) * (N : Int) = -(Y / (N : Int) * (N : Int)) := Int.neg_mul _ _
    have d : (x / i32 N).toInt = -(Y / (N : Int)) := by rw [Int32.toInt_div, hX, tN, Int.neg_tdiv, Int.tdiv_eq_ediv_of_nonneg s, bm (by omega) (by omega)]
    have e : (x / i32 N * i32 N).toInt = -(Y / (N : Int) * (N : Int)) := by rw [Int32.toInt_mul, d, tN, n7, bm (by omega) (by omega)]
    have r : (x - x / i32 N * i32 N).toInt = -(Y % (N : Int)) := by rw [Int32.toInt_sub, e, hX, bm (by omega) (by omega)]; omega
    by_cases z : Y % (N : Int) = 0
    · refine ⟨0, h0, ?_⟩
      have f : x - x / i32 N * i32 N = i32 0 := by rw [← Int32.toInt_inj, r, i32_ti (by omega)]; omega
      rw [f, if_neg (i32_neg (by omega))]
    · refine ⟨((N : Int) - Y % (N : Int)).toNat, by omega, ?_⟩
      rw [if_pos (by rw [Int32.lt_iff_toInt_lt, r]; show -(Y % (N : Int)) < 0; omega)]
      congr 1
      rw [← Int32.toInt_inj, Int32.toInt_add, r, tN, i32_ti (by omega), bm (by omega) (by omega)]
      omega
section DOES
variable {F : Nat} {S : TopS} {g : Nat → Int32} {c k : Nat} {T : Nat → Int64}
theorem pc_eq {S' : TopS} {n : Nat} (h : i_pointCount S' = i32 n) : i_pointCount S' = i32 n := h
theorem v_ne {n : Nat} {v : Int32} (hn : n < 2147483648) (hv : v < 0) : ¬ v = i32 n := fun z => i32_neg hn (by rw [← z]; exact hv)
/-- the answer of one act -/
def Act (F : Nat) (S : TopS) (g : Nat → Int32) (c k : Nat) (T : Nat → Int64) (r : Int32) (S' : TopS) : Prop :=
  Sv S S' ∧ ((r = 1 ∧ ∃ g', J F S' g' ∧ HS S' (c + 1) (min (k + 1) 12) (tUp T c (hS g))) ∨ (r = 0 ∧ S' = S))
theorem x_does (h : J F S g) (hx : HS S c k T) (hF : 1000 ≤ F) (a0 : Int32) : ∃ r S', s_L_does F S a0 = some (r, S') ∧ Act F S g c k T r S' := by
  obtain ⟨pe, pb⟩ := p_cnt h hF
  obtain ⟨ce, cb⟩ := c_cnt h hF
  unfold s_L_does
  rw [pe, ce]
  rw [i_one, i_one]
  obtain ⟨a, ha, e1⟩ := some_ok (a0 >>> ((4 : Int32) &&& 31)) (N := nP g + 1) (by omega) (by omega)
  obtain ⟨P, hP, e2⟩ := some_ok (a0 >>> ((8 : Int32) &&& 31)) (N := 9) (by omega) (by omega)
  obtain ⟨Q, hQ, e3⟩ := some_ok (a0 >>> ((12 : Int32) &&& 31)) (N := 9) (by omega) (by omega)
  obtain ⟨w, hw, e4⟩ := some_ok a0 (N := 8) (by omega) (by omega)
  rw [e1]; simp only [Option.bind_some]
  rw [show (9 : Int32) = i32 9 from rfl, e2]; simp only [Option.bind_some]
  rw [e3]; simp only [Option.bind_some]
  rw [show (8 : Int32) = i32 8 from rfl, e4]; simp only [Option.bind_some]
  by_cases w0 : i32 w = (0 : Int32) ∨ i32 w = (1 : Int32) ∨ i32 w = (2 : Int32)
  · rw [if_pos w0]
    obtain ⟨v, S', q1, q2, q3⟩ := x_point h hx hF (P := P) (Q := Q) (by omega) (by omega)
    rw [q1]; simp only [Option.bind_some]
    rcases q3 with ⟨rfl, q4, q5, q6, g', q7, q8⟩ | ⟨rfl, rfl | ⟨rfl, q4⟩⟩
    · rw [if_pos rfl, q4, if_pos rfl, q5]; simp only [Option.bind_some]
      rw [if_pos trivial, q6]; simp only [Option.bind_some]
      rw [if_pos trivial]
      exact ⟨_, _, rfl, q2, Or.inl ⟨rfl, g', q7, q8⟩⟩
    · rw [if_neg (v_ne (by omega) (by decide)), if_pos rfl]
      exact ⟨_, _, rfl, q2, Or.inr ⟨rfl, rfl⟩⟩
    · rw [if_neg (v_ne (by omega) (by decide)), if_neg (by decide), if_pos rfl, if_pos (by rw [q4]; rfl)]
      exact ⟨_, _, rfl, q2, Or.inr ⟨rfl, rfl⟩⟩
  rw [if_neg w0]
  by_cases w1 : i32 w = (3 : Int32)
  · rw [if_pos w1]
    obtain ⟨v, S', q1, q2, q3⟩ := x_remove h hx hF (a := a) (by omega)
    rw [q1]; simp only [Option.bind_some]
    by_cases z : nP g = 0
    · rcases q3 with ⟨rfl, q4, -⟩ | ⟨rfl, ⟨rfl, q4⟩ | rfl⟩
      · omega
      · rw [z, if_neg (by decide), if_pos rfl, if_pos (by rw [q4, z])]
        exact ⟨_, _, rfl, q2, Or.inr ⟨rfl, rfl⟩⟩
      · rw [z, if_neg (by decide), if_neg (by decide), if_pos rfl]
        exact ⟨_, _, rfl, q2, Or.inr ⟨rfl, rfl⟩⟩
    rw [show i32 (nP g) - (1 : Int32) = i32 (nP g - 1) from i32_sub (a := nP g) (b := 1) (by omega)]
    rcases q3 with ⟨rfl, q4, q5, g', q7, q8⟩ | ⟨rfl, ⟨rfl, q4⟩ | rfl⟩
    · rw [if_pos rfl, if_neg (n_le (by omega) q4), q5, if_pos rfl]
      exact ⟨_, _, rfl, q2, Or.inl ⟨rfl, g', q7, q8⟩⟩
    · rw [if_neg (v_ne (by omega) (by decide)), if_pos rfl, if_pos (by rw [q4])]
      exact ⟨_, _, rfl, q2, Or.inr ⟨rfl, rfl⟩⟩
    · rw [if_neg (v_ne (by omega) (by decide)), if_neg (by decide), if_pos rfl]
      exact ⟨_, _, rfl, q2, Or.inr ⟨rfl, rfl⟩⟩
  rw [if_neg w1]
  by_cases w2 : i32 w = (4 : Int32)
  · rw [if_pos w2]
    obtain ⟨v, S', q1, q2, q3⟩ := x_move h hx hF (a := a) (P := P) (Q := Q) (by omega) (by omega) (by omega)
    have low : ∀ (b : Int32), (b = 0 ∨ b = 1) → (S' = S ∧ ((v = (-1001 : Int32) ∧ a = nP g) ∨ v = (-1003 : Int32) ∨ v = (-1004 : Int32))) → ∀ (x : Option (Int32 × TopS)),
        ∃ r S1, (if v = b then x else if v = (-1001 : Int32) then (if i32 a = i32 (nP g) then some ((0 : Int32), S') else if v = (-1003 : Int32) then some ((0 : Int32), S') else if v = (-1004 : Int32) then some ((0 : Int32), S') else none) else if v = (-1003 : Int32) then some ((0 : Int32), S') else if v = (-1004 : Int32) then some ((0 : Int32), S') else none) = some (r, S1) ∧ Act F S g c k T r S1 := by
      intro b hb hv x
      obtain ⟨rfl, hv⟩ := hv
      have nb : ¬ v = b := by
        rcases hb with rfl | rfl <;> rcases hv with ⟨rfl, -⟩ | rfl | rfl <;> decide
      rw [if_neg nb]
      rcases hv with ⟨rfl, q4⟩ | rfl | rfl
      · rw [if_pos rfl, if_pos (by rw [q4])]
        exact ⟨_, _, rfl, q2, Or.inr ⟨rfl, rfl⟩⟩
      · rw [if_neg (by decide), if_pos rfl]
        exact ⟨_, _, rfl, q2, Or.inr ⟨rfl, rfl⟩⟩
      · rw [if_neg (by decide), if_neg (by decide), if_pos rfl]
        exact ⟨_, _, rfl, q2, Or.inr ⟨rfl, rfl⟩⟩
    have good : ∀ (b : Int32), a < nP g → v = b → s_h_coordinate F S' (i32 a) 0 = some (i32 P, S') → s_h_coordinate F S' (i32 a) 1 = some (i32 Q, S') → (∃ g', J F S' g' ∧ HS S' (c + 1) (min (k + 1) 12) (tUp T c (hS g))) → ∀ (y : Option (Int32 × TopS)),
        ∃ r S1, (if v = b then (if i32 (nP g) ≤ i32 a then none else (s_h_coordinate F S' (i32 a) (0 : Int32)).bind fun u1 => if u1.1 = i32 P then (s_h_coordinate F u1.2 (i32 a) (1 : Int32)).bind fun u2 => if u2.1 = i32 Q then some ((1 : Int32), u2.2) else none else none) else y) = some (r, S1) ∧ Act F S g c k T r S1 := by
      intro b q4 hv q5 q6 q7 y
      rw [if_pos hv, if_neg (n_le (by omega) q4), q5]; simp only [Option.bind_some]
      rw [if_pos trivial, q6]; simp only [Option.bind_some]
      rw [if_pos trivial]
      exact ⟨_, _, rfl, q2, Or.inl ⟨rfl, q7⟩⟩
    by_cases z : a = nP g
    · rw [if_pos (y_le (by omega) (by omega)), q1]; simp only [Option.bind_some]
      rcases q3 with ⟨q4, -⟩ | q3
      · omega
      · exact low 1 (Or.inr rfl) q3 _
    · have z : a < nP g := by omega
      rw [if_neg (n_le (by omega) z)]
      have cx := qq_coordinate h hF (i32 a) 0
      have cy := qq_coordinate h hF (i32 a) 1
      generalize av0 (s_Mod_coordinate g (i32 a) 0) = u at cx
      generalize av0 (s_Mod_coordinate g (i32 a) 1) = u' at cy
      rw [cx]; simp only [Option.bind_some]
      by_cases z1 : u = i32 P
      · rw [if_pos z1, cy]; simp only [Option.bind_some]
        by_cases z2 : u' = i32 Q
        · rw [if_pos z2, q1]; simp only [Option.bind_some]
          rcases q3 with ⟨q4, q5, q6, q7, q8⟩ | q3
          · refine good 0 q4 ?_ q6 q7 q8 _
            rcases q5 with ⟨_, q5⟩ | ⟨q9, q5⟩
            · exact q5
            · exact absurd ⟨by rw [cx, z1], by rw [cy, z2]⟩ q9
          · exact low 0 (Or.inl rfl) q3 _
        · rw [if_neg z2, q1]; simp only [Option.bind_some]
          rcases q3 with ⟨q4, q5, q6, q7, q8⟩ | q3
          · refine good 1 q4 ?_ q6 q7 q8 _
            rcases q5 with ⟨q9, _⟩ | ⟨_, q5⟩
            · exact absurd (by have := q9.2; rw [cy] at this; exact congrArg Prod.fst (Option.some.inj this)) z2
            · exact q5
          · exact low 1 (Or.inr rfl) q3 _
      · rw [if_neg z1, q1]; simp only [Option.bind_some]
        rcases q3 with ⟨q4, q5, q6, q7, q8⟩ | q3
        · refine good 1 q4 ?_ q6 q7 q8 _
          rcases q5 with ⟨q9, _⟩ | ⟨_, q5⟩
          · exact absurd (by have := q9.1; rw [cx] at this; exact congrArg Prod.fst (Option.some.inj this)) z1
          · exact q5
        · exact low 1 (Or.inr rfl) q3 _
  rw [if_neg w2]
  by_cases w3 : i32 w = (5 : Int32) ∨ i32 w = (6 : Int32)
  · rw [if_pos w3]
    obtain ⟨b, hb, e5⟩ := some_ok (a0 >>> ((16 : Int32) &&& 31)) (N := nP g + 1) (by omega) (by omega)
    rw [e5]; simp only [Option.bind_some]
    obtain ⟨v, S', q1, q2, q3⟩ := x_tie h hx hF (a := a) (b := b) (by omega) (by omega)
    rw [q1]; simp only [Option.bind_some]
    rcases q3 with ⟨rfl, q4, q5, g', q7, q8⟩ | ⟨rfl, ⟨rfl, q4⟩ | ⟨rfl, q4⟩ | ⟨rfl, q4⟩ | rfl⟩
    · rw [if_pos rfl, q4]; simp only [Option.bind_some]
      rw [if_pos trivial, q5]; simp only [Option.bind_some]
      rw [if_pos trivial]
      exact ⟨_, _, rfl, q2, Or.inl ⟨rfl, g', q7, q8⟩⟩
    · rw [if_neg (v_ne (by omega) (by decide)), if_pos rfl, if_pos (by rw [imax_i (by omega) (by omega), q4])]
      exact ⟨_, _, rfl, q2, Or.inr ⟨rfl, rfl⟩⟩
    · rw [if_neg (v_ne (by omega) (by decide)), if_neg (by decide), if_pos rfl, if_pos (by rw [q4])]
      exact ⟨_, _, rfl, q2, Or.inr ⟨rfl, rfl⟩⟩
    · rw [if_neg (v_ne (by omega) (by decide)), if_neg (by decide), if_neg (by decide), if_pos rfl, if_pos (by rw [q4]; rfl)]
      exact ⟨_, _, rfl, q2, Or.inr ⟨rfl, rfl⟩⟩
    · rw [if_neg (v_ne (by omega) (by decide)), if_neg (by decide), if_neg (by decide), if_neg (by decide), if_pos rfl]
      exact ⟨_, _, rfl, q2, Or.inr ⟨rfl, rfl⟩⟩
  rw [if_neg w3]
  obtain ⟨b, hb, e5⟩ := some_ok (a0 >>> ((4 : Int32) &&& 31)) (N := nC g + 1) (by omega) (by omega)
  rw [e5]; simp only [Option.bind_some]
  obtain ⟨v, S', q1, q2, q3⟩ := x_untie h hx hF (a := b) (by omega)
  rw [q1]; simp only [Option.bind_some]
  by_cases z : nC g = 0
  · rcases q3 with ⟨rfl, q4, -⟩ | ⟨rfl, rfl, q4⟩
    · omega
    · rw [z, if_neg (by decide), if_pos rfl, if_pos (by rw [q4, z])]
      exact ⟨_, _, rfl, q2, Or.inr ⟨rfl, rfl⟩⟩
  rw [show i32 (nC g) - (1 : Int32) = i32 (nC g - 1) from i32_sub (a := nC g) (b := 1) (by omega)]
  rcases q3 with ⟨rfl, q4, g', q7, q8⟩ | ⟨rfl, rfl, q4⟩
  · rw [if_pos rfl, if_neg (n_le (by omega) q4)]
    exact ⟨_, _, rfl, q2, Or.inl ⟨rfl, g', q7, q8⟩⟩
  · rw [if_neg (v_ne (by omega) (by decide)), if_pos rfl, if_pos (by rw [q4])]
    exact ⟨_, _, rfl, q2, Or.inr ⟨rfl, rfl⟩⟩
end DOES

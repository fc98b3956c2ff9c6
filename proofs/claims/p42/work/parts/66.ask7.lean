/-- on a line: an edge that leaves the segment has an end of it inside -/
theorem cov_line {a b c d : Int × Int × Int} (wa : a.2.2 = 1) (wb : b.2.2 = 1) (wc : c.2.2 = 1) (wd : d.2.2 = 1) (h1 : dt a b c = 0) (h2 : dt a b d = 0) (hc : cov a b c) (hd : ¬ cov a b d)
    (na : d ≠ a) (nb : d ≠ b) : cov c d a ∨ cov c d b := by
  obtain ⟨a1, a2, a3⟩ := a
  obtain ⟨b1, b2, b3⟩ := b
  obtain ⟨c1, c2, c3⟩ := c
  obtain ⟨d1, d2, d3⟩ := d
  simp only at wa wb wc wd
  subst wa; subst wb; subst wc; subst wd
  have hc2 := hc.2
  have hd2 : ¬ (dotp (a1, a2, 1) (b1, b2, 1) (d1, d2, 1) < 0) := fun z => hd ⟨h2, z⟩
  simp only [dt, dotp] at h1 h2 hc2 hd2
  have na' : ¬ (d1 - a1 = 0 ∧ d2 - a2 = 0) := fun z => na (by rw [show d1 = a1 by omega, show d2 = a2 by omega])
  have nb' : ¬ (d1 - b1 = 0 ∧ d2 - b2 = 0) := fun z => nb (by rw [show d1 = b1 by omega, show d2 = b2 by omega])
  generalize eu1 : b1 - a1 = u1 at *
  generalize eu2 : b2 - a2 = u2 at *
  generalize ep1 : c1 - a1 = p1 at *
  generalize ep2 : c2 - a2 = p2 at *
  generalize eq1 : d1 - a1 = q1 at *
  generalize eq2 : d2 - a2 = q2 at *
  have x1 : u1 * p2 - u2 * p1 = 0 := by grind
  have x2 : u1 * q2 - u2 * q1 = 0 := by grind
  have y1 : p1 * (p1 - u1) + p2 * (p2 - u2) < 0 := by
    have : p1 * (p1 - u1) + p2 * (p2 - u2) = (a1 - c1) * (b1 - c1) + (a2 - c2) * (b2 - c2) := by grind
    omega
  have y2 : ¬ (q1 * (q1 - u1) + q2 * (q2 - u2) < 0) := by
    have : q1 * (q1 - u1) + q2 * (q2 - u2) = (a1 - d1) * (b1 - d1) + (a2 - d2) * (b2 - d2) := by grind
    omega
  have nu : ¬ (u1 = 0 ∧ u2 = 0) := by
    rintro ⟨e1, e2⟩
    rw [e1, e2, Int.sub_zero, Int.sub_zero] at y1
    have := sq_nn p1; have := sq_nn p2
    omega
  have N := sq2_pos nu
  have x3 : p1 * q2 - p2 * q1 = 0 := by
    have e : (u1 * u1 + u2 * u2) * (p1 * q2 - p2 * q1) = (u1 * p1 + u2 * p2) * (u1 * q2 - u2 * q1) - (u1 * q1 + u2 * q2) * (u1 * p2 - u2 * p1) := by grind
    rw [x1, x2, Int.mul_zero, Int.mul_zero] at e
    rcases Int.mul_eq_zero.1 (show (u1 * u1 + u2 * u2) * (p1 * q2 - p2 * q1) = 0 by omega) with k | k
    · omega
    · exact k
  have x4 : dt (c1, c2, 1) (d1, d2, 1) (a1, a2, 1) = 0 := by
    have : dt (c1, c2, 1) (d1, d2, 1) (a1, a2, 1) = p1 * q2 - p2 * q1 := by
      rw [← ep1, ← ep2, ← eq1, ← eq2]; simp only [dt]; grind
    omega
  have x5 : dt (c1, c2, 1) (d1, d2, 1) (b1, b2, 1) = 0 := by
    have : dt (c1, c2, 1) (d1, d2, 1) (b1, b2, 1) = (p1 * q2 - p2 * q1) - (u1 * q2 - u2 * q1) + (u1 * p2 - u2 * p1) := by
      rw [← ep1, ← ep2, ← eq1, ← eq2, ← eu1, ← eu2]; simp only [dt]; grind
    omega
  have eN1 : (u1 * u1 + u2 * u2) * (p1 * (p1 - u1) + p2 * (p2 - u2)) = (p1 * u1 + p2 * u2) * ((p1 * u1 + p2 * u2) - (u1 * u1 + u2 * u2)) := by grind
  have eN2 : (u1 * u1 + u2 * u2) * (q1 * (q1 - u1) + q2 * (q2 - u2)) = (q1 * u1 + q2 * u2) * ((q1 * u1 + q2 * u2) - (u1 * u1 + u2 * u2)) := by grind
  have eN3 : (u1 * u1 + u2 * u2) * (p1 * q1 + p2 * q2) = (p1 * u1 + p2 * u2) * (q1 * u1 + q2 * u2) := by grind
  have eN4 : (u1 * u1 + u2 * u2) * ((p1 - u1) * (q1 - u1) + (p2 - u2) * (q2 - u2)) = ((p1 * u1 + p2 * u2) - (u1 * u1 + u2 * u2)) * ((q1 * u1 + q2 * u2) - (u1 * u1 + u2 * u2)) := by grind
  have eN5 : (u1 * u1 + u2 * u2) * (q1 * q1 + q2 * q2) = (q1 * u1 + q2 * u2) * (q1 * u1 + q2 * u2) := by grind
  have eN6 : (u1 * u1 + u2 * u2) * ((q1 - u1) * (q1 - u1) + (q2 - u2) * (q2 - u2)) = ((q1 * u1 + q2 * u2) - (u1 * u1 + u2 * u2)) * ((q1 * u1 + q2 * u2) - (u1 * u1 + u2 * u2)) := by grind
  have Q1 := sq2_pos na'
  have Q2 : 0 < (q1 - u1) * (q1 - u1) + (q2 - u2) * (q2 - u2) := sq2_pos (fun z => nb' (by omega))
  have z1 := m_PN N y1
  have z5 := m_PP N Q1
  have z6 := m_PP N Q2
  have z2 := m_pp (Int.le_of_lt N) (show 0 ≤ q1 * (q1 - u1) + q2 * (q2 - u2) by omega)
  rw [eN1] at z1
  rw [eN5] at z5
  rw [eN6] at z6
  rw [eN2] at z2
  generalize u1 * u1 + u2 * u2 = NN at *
  generalize p1 * u1 + p2 * u2 = C at *
  generalize q1 * u1 + q2 * u2 = D at *
  have hC : 0 < C ∧ C - NN < 0 := by
    rcases Int.lt_trichotomy C 0 with k | k | k
    · have := m_NN k (show C - NN < 0 by omega); omega
    · rw [k, Int.zero_mul] at z1; omega
    · rcases Int.lt_or_le (C - NN) 0 with l | l
      · exact ⟨k, l⟩
      · have := m_pp (Int.le_of_lt k) l; omega
  have hD : D < 0 ∨ 0 < D - NN := by
    rcases Int.lt_trichotomy D 0 with k | k | k
    · exact Or.inl k
    · rw [k, Int.zero_mul] at z5; omega
    · rcases Int.lt_trichotomy (D - NN) 0 with l | l | l
      · have := m_PN k l; omega
      · rw [l, Int.zero_mul] at z6; omega
      · exact Or.inr l
  rcases hD with k | k
  · left
    have w := m_PN hC.1 k
    rw [← eN3] at w
    refine ⟨x4, ?_⟩
    have e : dotp (c1, c2, 1) (d1, d2, 1) (a1, a2, 1) = p1 * q1 + p2 * q2 := by simp only [dotp]; rw [ep1, ep2, eq1, eq2]
    rw [e]
    rcases Int.lt_or_le (p1 * q1 + p2 * q2) 0 with l | l
    · exact l
    · have := m_pp (Int.le_of_lt N) l; omega
  · right
    have w := m_NP hC.2 k
    rw [← eN4] at w
    refine ⟨x5, ?_⟩
    have e : dotp (c1, c2, 1) (d1, d2, 1) (b1, b2, 1) = (p1 - u1) * (q1 - u1) + (p2 - u2) * (q2 - u2) := by
      simp only [dotp]; rw [show c1 - b1 = p1 - u1 by omega, show c2 - b2 = p2 - u2 by omega, show d1 - b1 = q1 - u1 by omega, show d2 - b2 = q2 - u2 by omega]
    rw [e]
    rcases Int.lt_or_le ((p1 - u1) * (q1 - u1) + (p2 - u2) * (q2 - u2)) 0 with l | l
    · exact l
    · have := m_pp (Int.le_of_lt N) l; omega
/-- the segment ab reaches p -/
def Rch (P : Nat → Int × Int × Int) (a b p : Nat) : Prop := p = a ∨ p = b ∨ cov (P a) (P b) (P p)
theorem cr_edge {n : Nat} {P : Nat → Int × Int × Int} {E : Nat → Nat → Prop} (G : Ge n P E) {a b c d : Nat} (ha : a < n) (hb : b < n) (hab : a ≠ b) (e : E c d) (l : c < d) :
    (Pc P a b c d ∨ (Rch P a b c ∧ Rch P a b d)) ↔ Cr P a b c d := by
  obtain ⟨w, inj, lt, nc, np⟩ := G
  obtain ⟨hc, hd, _, e2⟩ := lt c d e
  have r0 : ∀ p, Rch P a b p → dt (P a) (P b) (P p) = 0 := by
    rintro p (rfl | rfl | h)
    · exact dt_aba _ _
    · exact dt_baa _ _
    · exact h.1
  have key : ∀ x y, x < n → y < n → E x y → dt (P a) (P b) (P x) = 0 → dt (P a) (P b) (P y) = 0 → cov (P a) (P b) (P x) → Rch P a b y := by
    intro x y hx hy exy h1 h2 h3
    by_cases na : y = a
    · exact Or.inl na
    by_cases nb : y = b
    · exact Or.inr (Or.inl nb)
    by_cases k : cov (P a) (P b) (P y)
    · exact Or.inr (Or.inr k)
    rcases cov_line (w a ha) (w b hb) (w x hx) (w y hy) h1 h2 h3 k (fun z => na (inj y a hy ha z)) (fun z => nb (inj y b hy hb z)) with z | z
    · exact (np x y a exy ha z).elim
    · exact (np x y b exy hb z).elim
  constructor
  · rintro (h | ⟨h1, h2⟩)
    · exact Or.inl h
    · refine Or.inr ⟨r0 c h1, r0 d h2, ?_⟩
      rcases h1 with h1 | h1 | h1
      · rcases h2 with h2 | h2 | h2
        · omega
        · exact Or.inl (by rw [h1, h2]; exact ⟨rfl, rfl⟩)
        · exact Or.inr (Or.inr (Or.inl h2))
      · rcases h2 with h2 | h2 | h2
        · exact Or.inl (by rw [h1, h2]; exact ⟨Nat.min_comm _ _, Nat.max_comm _ _⟩)
        · omega
        · exact Or.inr (Or.inr (Or.inl h2))
      · exact Or.inr (Or.inl h1)
  · rintro (h | ⟨h1, h2, h3⟩)
    · exact Or.inl h
    · right
      rcases h3 with ⟨h3, h4⟩ | h3 | h3 | h3 | h3
      · rw [Nat.min_eq_left (show c ≤ d by omega)] at h3
        rw [Nat.max_eq_right (show c ≤ d by omega)] at h4
        by_cases k : a ≤ b
        · rw [Nat.min_eq_left k] at h3
          rw [Nat.max_eq_right k] at h4
          exact ⟨Or.inl h3.symm, Or.inr (Or.inl h4.symm)⟩
        · rw [Nat.min_eq_right (by omega)] at h3
          rw [Nat.max_eq_left (by omega)] at h4
          exact ⟨Or.inr (Or.inl h3.symm), Or.inl h4.symm⟩
      · exact ⟨Or.inr (Or.inr h3), key c d hc hd e h1 h2 h3⟩
      · exact ⟨key d c hd hc e2 h2 h1 h3, Or.inr (Or.inr h3)⟩
      · exact (np c d a e ha h3).elim
      · exact (np c d b e hb h3).elim
section ASK7
variable {F n m : Nat} {X Y : Nat → Int} {L H : Nat → Nat} {pxs pys plo phi : Nat → Int32} {pn pm : Int32} {mnow : Nat → Int32}
variable {lf th ow lk el eh co hu : Nat → Int32} {ne nt nh : Int32} {medg mcor : Nat → Int32} {mtri : Int32} {xs : Nat → Int32} {fl : Nat → Int64} {x5 : Int32}
variable {E : Nat → Nat → Prop} {c : Nat} {f g : Nat → Nat} {t : Nat} {ta tb tc : Nat → Nat}
/-- the walk, on both sides -/
theorem q_walk (hC : CP n m X Y L H pxs pys plo phi pn pm) (hM : MP n m X Y L H mnow) (hO : Ok n m X Y L H) (hF : 300 ≤ F) (G : Ge n (pt X Y) E) (D : TrD n (pt X Y) E t ta tb tc) (hE : ME medg E) (h1 : CoR t ta tb tc mcor) (h2 : CoR t ta tb tc co) (h3 : OwR t ta tb tc ow)
    {x y : Int32} {P Q : Int} (hx : R32 x P 100) (hy : R32 y Q 100) (b : Bool) :
    ∀ d s a k, s + d = 50 → d < k → a < t → ∃ v w, s_Mesh_exitTowards F pxs pys co (i32 a) x y = some v ∧ s_Top_walk_L30 F pxs pys ow co x y k (i32 a) (i32 s) v = some w ∧
      s_Mod_walk_L39 F (0 : Int32) mnow medg mcor (i32 t) x y b k (i32 a) (i32 s) = some (if bI b = 0 then w.2.1 else if w.2.2 = (-1 : Int32) then w.1 else (-1 : Int32), (0 : Int32), medg, mcor, i32 t) := by
  intro d
  induction d with
  | zero =>
    intro s a k hs hk ha
    obtain ⟨k, rfl⟩ : ∃ j, k = j + 1 := ⟨k - 1, by omega⟩
    have : s = 50 := by omega
    subst this
    obtain ⟨r, r1, r2, r3⟩ := q_exit hC hM hO hF G D h1 h2 hx hy ha
    refine ⟨r, (i32 a, i32 50, r), r2, ?_, ?_⟩
    · simp only [s_Top_walk_L30]
      rw [if_pos (show (50 : Int32) ≤ i32 50 from y_le (a := 50) (by omega) (by omega))]
    · simp only [s_Mod_walk_L39, r1, Option.bind_some]
      rcases r3 with rfl | ⟨j, hj, rfl⟩
      · rw [if_neg (by decide)]
        by_cases z : bI b = 0
        · rw [if_pos z, if_pos z]
        · rw [if_neg z, if_neg z, if_pos rfl]
      · obtain ⟨u, u1, u2, u3⟩ := q_beyond hM hO G D hE h1 h3 h2 F hF ha hj
        rw [if_pos (i32_nn (by omega)), u1]
        simp only [Option.bind_some]
        rcases u3 with rfl | ⟨q, hq, rfl⟩
        · rw [if_pos (by decide)]
          by_cases z : bI b = 0
          · rw [if_pos z, if_pos z]
          · rw [if_neg z, if_neg z, if_neg (i32_m1 (by omega))]
        · have ht := D.1
          rw [if_neg (i32_neg (by omega)), if_pos (show i32 50 = (50 : Int32) from rfl)]
          by_cases z : bI b = 0
          · rw [if_pos z, if_pos z]
          · rw [if_neg z, if_neg z, if_neg (i32_m1 (by omega))]
  | succ d ih =>
    intro s a k hs hk ha
    obtain ⟨k, rfl⟩ : ∃ j, k = j + 1 := ⟨k - 1, by omega⟩
    have ht := D.1
    obtain ⟨r, r1, r2, r3⟩ := q_exit hC hM hO hF G D h1 h2 hx hy ha
    have n50 : ¬ ((50 : Int32) ≤ i32 s) := n_le (a := 50) (by omega) (by omega)
    rcases r3 with rfl | ⟨j, hj, rfl⟩
    · refine ⟨-1, (i32 a, i32 s, -1), r2, ?_, ?_⟩
      · simp only [s_Top_walk_L30]
        rw [if_neg n50, if_pos trivial]
      · simp only [s_Mod_walk_L39, r1, Option.bind_some]
        rw [if_neg (by decide)]
        by_cases z : bI b = 0
        · rw [if_pos z, if_pos z]
        · rw [if_neg z, if_neg z, if_pos trivial]
    obtain ⟨u, u1, u2, u3⟩ := q_beyond hM hO G D hE h1 h3 h2 F hF ha hj
    rcases u3 with rfl | ⟨q, hq, rfl⟩
    · refine ⟨i32 j, (i32 a, i32 s, i32 j), r2, ?_, ?_⟩
      · simp only [s_Top_walk_L30, u2]
        rw [if_neg n50, if_neg (i32_m1 (by omega)), if_pos trivial]
      · simp only [s_Mod_walk_L39, r1, Option.bind_some, u1]
        rw [if_pos (i32_nn (by omega)), if_pos (by decide)]
        by_cases z : bI b = 0
        · rw [if_pos z, if_pos z]
        · rw [if_neg z, if_neg z, if_neg (i32_m1 (by omega))]
    · obtain ⟨v, w, w1, w2, w3⟩ := ih (s + 1) q k (by omega) (by omega) hq
      refine ⟨i32 j, w, r2, ?_, ?_⟩
      · simp only [s_Top_walk_L30, u2]
        rw [if_neg n50, if_neg (i32_m1 (by omega)), if_neg (i32_m1 (by omega)), w1, i32_s]
        simp only [Option.bind_some]
        exact w2
      · simp only [s_Mod_walk_L39, r1, Option.bind_some, u1]
        rw [if_pos (i32_nn (by omega)), if_neg (i32_neg (by omega)), if_neg (fun z => by have := (i32_eq (a := s) (b := 50) (by omega) (by omega)).1 z; omega), i32_s]
        exact w3
theorem an_walk (cx : Cx F n m X Y L H pxs pys plo phi pn pm mnow (lf, th, ow, lk, el, eh, co, hu, ne, nt, nh) medg mcor) (a0 a1 a2 : Int32) (b : Bool) :
    ∃ v thr r q, s_Mod_walk F mnow medg mcor a0 a1 a2 b = some (v, thr, r) ∧ s_Top_walk F pxs pys ow co nt a0 a1 a2 b = some q ∧ An ["java/lang/IndexOutOfBoundsException", "java/lang/IllegalArgumentException"] q v thr := by
  obtain ⟨hF, hC, hM, hO, o, hb, E, c, f, g, t, ta, tb, tc, T, hp, D, K, B⟩ := cx
  obtain ⟨k1, k2, k3, k4, k5, k6, k7, k8, k9, k10⟩ := K
  have ht := D.2.2.2.2.1.1
  have w6 : CoR t ta tb tc co := k6
  have w3 : OwR t ta tb tc ow := k3
  have k9 : nt = i32 t := k9
  subst k9
  unfold s_Mod_walk s_Top_walk
  rw [m_isT ht hb B.2.2]
  simp only [Option.bind_some]
  by_cases h : ∃ a, a < t ∧ a0 = i32 a
  case neg => rw [if_pos (bI_f h), c_rtN (by omega) h]; exact ⟨_, _, _, _, rfl, rfl, an_1 _ _ _⟩
  rw [if_neg (bI_t h)]
  obtain ⟨a, ha, rfl⟩ := h
  rw [c_rtY (by omega) ha]
  simp only [Sum.elim_inr]
  rcases c_rpos (a0 := a1) (a1 := a2) with ⟨P, Q, hP, hQ, rfl, rfl, e1, e2⟩ | ⟨e1, e2⟩
  · rw [e1, e2, if_neg (by decide)]
    simp only [Sum.elim_inr]
    obtain ⟨v, w, q1, q2, q3⟩ := q_walk hC hM hO hF D.1.1 D.2.2.2.2.1 B.1 B.2.1 w6 w3 (i32_r hP) (i32_r hQ) b 50 0 a F (by omega) (by omega) ha
    have q2 : s_Top_walk_L30 F pxs pys ow co (i32 P) (i32 Q) F (i32 a) (0 : Int32) v = some w := q2
    have q3 : s_Mod_walk_L39 F (0 : Int32) mnow o.1 o.2.1 (i32 t) (i32 P) (i32 Q) b F (i32 a) (0 : Int32) = _ := q3
    rw [q1, q3]
    simp only [Option.bind_some]
    rw [q2]
    simp only [Option.bind_some]
    by_cases z : bI b = 0
    · rw [if_pos z, if_pos z]
      exact ⟨_, _, _, _, rfl, rfl, an_v _ _⟩
    · rw [if_neg z, if_neg z]
      by_cases y : w.2.2 = (-1 : Int32)
      · rw [if_pos y, if_pos y]
        exact ⟨_, _, _, _, rfl, rfl, an_v _ _⟩
      · rw [if_neg y, if_neg y]
        exact ⟨_, _, _, _, rfl, rfl, an_v _ _⟩
  · rw [e1, e2, if_pos (show bI false = 0 from rfl)]
    exact ⟨_, _, _, _, rfl, rfl, an_2 _ _ _ _⟩
theorem k_31 (cx : Cx F n m X Y L H pxs pys plo phi pn pm mnow (lf, th, ow, lk, el, eh, co, hu, ne, nt, nh) medg mcor) : ∃ out, s_case_31 F xs pxs pys ow co nt mnow medg mcor fl x5 = some out := by
  unfold s_case_31
  by_cases z : (xs (x5 + (4 : Int32)).toNatClampNeg) = 0
  · obtain ⟨v, thr, r, q, h1, h3, h2⟩ := an_walk cx (xs (x5 + (1 : Int32)).toNatClampNeg) (xs (x5 + (2 : Int32)).toNatClampNeg) (xs (x5 + (3 : Int32)).toNatClampNeg) false
    obtain ⟨fl', l1, l2⟩ := law2_an h2 (by decide) fl
    have lw : s_Law_walk F pxs pys ow co nt (xs (x5 + (1 : Int32)).toNatClampNeg) (xs (x5 + (2 : Int32)).toNatClampNeg) (xs (x5 + (3 : Int32)).toNatClampNeg) false fl = some (thr, fl') := by
      unfold s_Law_walk; rw [h3]; exact l1
    simp only [if_pos z]
    exact ⟨_, caseG _ lw h1 l2⟩
  · obtain ⟨v, thr, r, q, h1, h3, h2⟩ := an_walk cx (xs (x5 + (1 : Int32)).toNatClampNeg) (xs (x5 + (2 : Int32)).toNatClampNeg) (xs (x5 + (3 : Int32)).toNatClampNeg) true
    obtain ⟨fl', l1, l2⟩ := law2_an h2 (by decide) fl
    have lw : s_Law_walk F pxs pys ow co nt (xs (x5 + (1 : Int32)).toNatClampNeg) (xs (x5 + (2 : Int32)).toNatClampNeg) (xs (x5 + (3 : Int32)).toNatClampNeg) true fl = some (thr, fl') := by
      unfold s_Law_walk; rw [h3]; exact l1
    simp only [if_neg z]
    exact ⟨_, caseG _ lw h1 l2⟩
end ASK7

def mix (B : Int) (a : Int × Int × Int) (A : Int) (q : Int × Int × Int) : Int × Int × Int :=
  (B * a.1 + A * q.1, B * a.2.1 + A * q.2.1, B * a.2.2 + A * q.2.2)
theorem mix_3 (x y a q : Int × Int × Int) (B A : Int) : dt x y (mix B a A q) = B * dt x y a + A * dt x y q := by
  simp only [dt, mix]; grind
theorem mix_1 (x y a q : Int × Int × Int) (B A : Int) : dt (mix B a A q) x y = B * dt a x y + A * dt q x y := by
  simp only [dt, mix]; grind
theorem mix_2 (x y a q : Int × Int × Int) (B A : Int) : dt x (mix B a A q) y = B * dt x a y + A * dt x q y := by
  simp only [dt, mix]; grind
theorem gp_osr (a q s t r : Int × Int × Int) : -(dt t s q) * dt a s r + dt t s a * dt q s r = dt a q s * dt t s r := by
  simp only [dt]; grind
theorem frac_tr {a1 b1 a2 b2 a3 b3 : Int} (h1 : 0 < b1) (h2 : 0 < b2) (h3 : 0 < b3) (h : a1 * b2 < a2 * b1) (k : a2 * b3 < a3 * b2) :
    a1 * b3 < a3 * b1 := by
  have e1 := m_PP h3 (Int.sub_pos.2 h)
  have e2 := m_PP h1 (Int.sub_pos.2 k)
  have e3 : b2 * (a3 * b1 - a1 * b3) = b3 * (a2 * b1 - a1 * b2) + b1 * (a3 * b2 - a2 * b3) := by grind
  have := pos_of h2 (x := a3 * b1 - a1 * b3) (by omega)
  omega
theorem fanL {n : Nat} {P : Nat → Int × Int × Int} {E : Nat → Nat → Prop} (G : Ge n P E) (M : Mx n P E)
    (a q s t : Nat) (ha : a < n) (hq : q < n) (hst : E s t) (hx : xc (P a) (P q) (P s) (P t))
    (hc : ∀ p, p < n → ¬ cov (P a) (P q) (P p))
    (hm : ∀ u v, E u v → xc (P a) (P q) (P u) (P v) →
      dt (P t) (P s) (P a) * -(dt (P v) (P u) (P q)) ≤ dt (P v) (P u) (P a) * -(dt (P t) (P s) (P q))) :
    ∃ r, E a r ∧ 0 < dt (P a) (P q) (P r) ∧ 0 ≤ dt (P t) (P s) (P r) ∧ 0 ≤ dt (P s) (P a) (P r) := by
  have G0 := G
  obtain ⟨gw, gd, ge, gc, gp⟩ := G
  obtain ⟨x1, x2, x3, x4⟩ := hx
  obtain ⟨hs, ht, hst', hts⟩ := ge s t hst
  have wa := gw a ha
  have wq := gw q hq
  have ws := gw s hs
  have wt := gw t ht
  have hB : 0 < -(dt (P t) (P s) (P q)) := by omega
  have wo : 0 < (mix (-(dt (P t) (P s) (P q))) (P a) (dt (P t) (P s) (P a)) (P q)).2.2 := by
    simp only [mix, wa, wq]; omega
  have o_a : ∀ z, dt (P a) (mix (-(dt (P t) (P s) (P q))) (P a) (dt (P t) (P s) (P a)) (P q)) z = dt (P t) (P s) (P a) * dt (P a) (P q) z := by
    intro z; rw [mix_2, dt_aab, Int.mul_zero, Int.zero_add]
  have o3 : ∀ x y, dt x y (mix (-(dt (P t) (P s) (P q))) (P a) (dt (P t) (P s) (P a)) (P q)) = -(dt (P t) (P s) (P q)) * dt x y (P a) + dt (P t) (P s) (P a) * dt x y (P q) := fun x y => mix_3 _ _ _ _ _ _
  have o1 : ∀ x y, dt (mix (-(dt (P t) (P s) (P q))) (P a) (dt (P t) (P s) (P a)) (P q)) x y = -(dt (P t) (P s) (P q)) * dt (P a) x y + dt (P t) (P s) (P a) * dt (P q) x y := fun x y => mix_1 _ _ _ _ _ _
  have o2 : ∀ x y, dt x (mix (-(dt (P t) (P s) (P q))) (P a) (dt (P t) (P s) (P a)) (P q)) y = -(dt (P t) (P s) (P q)) * dt x (P a) y + dt (P t) (P s) (P a) * dt x (P q) y := fun x y => mix_2 _ _ _ _ _ _
  generalize ho : mix (-(dt (P t) (P s) (P q))) (P a) (dt (P t) (P s) (P a)) (P q) = o at wo o_a o3 o1 o2
  have h0 : 0 < dt (P a) o (P s) := by rw [o_a]; exact m_PP x3 x1
  have h0t : dt (P a) o (P t) < 0 := by rw [o_a]; exact m_PN x3 x2
  have hts0 : dt (P t) (P s) o = 0 := by rw [o3]; grind
  have haqo : dt (P a) (P q) o = 0 := by rw [o3, dt_aba, dt_baa]; omega
  have hoqs : 0 < dt o (P q) (P s) := by
    rw [o1, dt_aab, Int.mul_zero, Int.add_zero]; exact m_PP hB x1
  obtain ⟨r, hr, er, r1, r2, r3⟩ := look G0 M a s o ha hs wo h0
    (fun u v huv hx => by
      obtain ⟨y1, y2, y3, y4⟩ := hx
      rw [o_a] at y1 y2
      rw [o3] at y4
      have z1 := pos_of x3 y1
      have z2 := neg_of x3 y2
      have z3 := m_PP hB y3
      have z4 : dt (P v) (P u) (P q) < 0 := neg_of x3 (x := dt (P v) (P u) (P q)) (by omega)
      have z5 := hm u v huv ⟨z1, z2, y3, z4⟩
      grind)
    (fun u v huv hx => by
      obtain ⟨y1, y2, y3, y4⟩ := hx
      exact sl_h2 (P a) o (P s) (P t) (P u) (P v) h0 h0t x3 hts0 y1 y2 y3 y4
        (fun q1 q2 q3 q4 => gc t s u v hts huv ⟨q1, q2, q3, q4⟩))
    (fun u v huv y1 y2 y3 => by
      obtain ⟨hu, hv, _, hvu⟩ := ge u v huv
      rcases Int.lt_trichotomy (dt (P u) (P v) (P s)) 0 with z | z | z
      · exact (sl_h3b (P a) o (P s) (P t) (P u) (P v) wa wo ws wt (gw u hu) (gw v hv) h0 h0t x3 hts0 y1 y2 y3 z (gc t s v u hts hvu)).elim
      · exact z
      · exact (sl_h3a (P a) o (P s) (P t) (P u) (P v) wa wo ws wt (gw u hu) (gw v hv) h0 h0t x3 hts0 y1 y2 y3 z (gc t s u v hts huv)).elim)
    (fun p hp y1 y2 y3 => by
      rw [o_a] at y1
      have z1 := zer_of x3 y1
      apply hc p hp
      apply cov_p wa wq (gw p hp) z1 y2
      rcases Int.lt_or_le 0 (dt (P p) (P q) (P s)) with z | z
      · exact z
      · exact (sl_h4 (P a) o (P q) (P s) (P p) wa wo wq ws (gw p hp) haqo h0 hoqs y2 y3 z).elim)
  refine ⟨r, er, ?_, ?_, r3⟩
  · rw [o_a] at r1; exact pos_of x3 r1
  · rw [o1, gp_osr] at r2
    exact nn_of x1 r2
def mir (v : Int × Int × Int) : Int × Int × Int := (-v.1, v.2.1, v.2.2)
theorem dt_mir (a b c : Int × Int × Int) : dt (mir a) (mir b) (mir c) = - dt a b c := by
  simp only [dt, mir]; grind
theorem xc_mir (a b c d : Int × Int × Int) : xc (mir a) (mir b) (mir c) (mir d) ↔ xc a b d c := by
  simp only [xc, dt_mir]
  have := dt_102 c d a; have := dt_102 c d b
  constructor
  · intro ⟨h1, h2, h3, h4⟩
    exact ⟨by omega, by omega, by omega, by omega⟩
  · intro ⟨h1, h2, h3, h4⟩
    exact ⟨by omega, by omega, by omega, by omega⟩
theorem cov_mir (a b c : Int × Int × Int) : cov (mir a) (mir b) (mir c) ↔ cov a b c := by
  have e : dotp (mir a) (mir b) (mir c) = dotp a b c := by simp only [dotp, mir]; grind
  simp only [cov, dt_mir, e]
  constructor
  · intro ⟨h1, h2⟩
    exact ⟨by omega, h2⟩
  · intro ⟨h1, h2⟩
    exact ⟨by omega, h2⟩
theorem ge_mir {n : Nat} {P : Nat → Int × Int × Int} {E : Nat → Nat → Prop} (G : Ge n P E) : Ge n (fun i => mir (P i)) E := by
  obtain ⟨gw, gd, ge, gc, gp⟩ := G
  refine ⟨gw, ?_, ge, ?_, ?_⟩
  · intro i j hi hj h
    apply gd i j hi hj
    simp only [mir, Prod.mk.injEq] at h
    obtain ⟨h1, h2, h3⟩ := h
    exact Prod.ext (by omega) (Prod.ext h2 h3)
  · intro a b c d h k hx
    exact gc a b d c h (ge c d k).2.2.2 ((xc_mir _ _ _ _).1 hx)
  · intro a b p h k hx
    exact gp a b p h k ((cov_mir _ _ _).1 hx)
theorem mx_mir {n : Nat} {P : Nat → Int × Int × Int} {E : Nat → Nat → Prop} (hs : ∀ i j, E i j → E j i) (M : Mx n P E) : Mx n (fun i => mir (P i)) E := by
  intro a b ha hb hab h1 h2
  apply M a b ha hb hab
  · intro p hp hc
    exact h1 p hp ((cov_mir _ _ _).2 hc)
  · intro c d h hx
    exact h2 d c (hs c d h) ((xc_mir _ _ _ _).2 hx)
theorem fan0 {n : Nat} {P : Nat → Int × Int × Int} {E : Nat → Nat → Prop} (G : Ge n P E) (M : Mx n P E)
    (a q : Nat) (ha : a < n) (hq : q < n) (aq : a ≠ q) (hc : ∀ p, p < n → ¬ cov (P a) (P q) (P p)) :
    E a q ∨ ∃ s t, E s t ∧ xc (P a) (P q) (P s) (P t) ∧
      (∃ r, E a r ∧ 0 < dt (P a) (P q) (P r) ∧ 0 ≤ dt (P t) (P s) (P r) ∧ 0 ≤ dt (P s) (P a) (P r)) ∧
      (∃ r, E a r ∧ dt (P a) (P q) (P r) < 0 ∧ 0 ≤ dt (P t) (P s) (P r) ∧ 0 ≤ dt (P a) (P t) (P r)) := by
  by_cases hE : ∃ u v, E u v ∧ xc (P a) (P q) (P u) (P v)
  · right
    obtain ⟨u0, v0, e0, x0⟩ := hE
    obtain ⟨gw, gd, ge, gc, gp⟩ := G
    have hl : ∀ u v, E u v → (u, v) ∈ (List.range n).flatMap (fun u => (List.range n).map (fun v => (u, v))) := by
      intro u v h
      obtain ⟨hu, hv, _⟩ := ge u v h
      exact List.mem_flatMap.2 ⟨u, List.mem_range.2 hu, List.mem_map.2 ⟨v, List.mem_range.2 hv, rfl⟩⟩
    obtain ⟨⟨s, t⟩, _, ⟨est, xst⟩, hm⟩ := min_l (fun x : Nat × Nat => E x.1 x.2 ∧ xc (P a) (P q) (P x.1) (P x.2))
      (fun x y => dt (P x.2) (P x.1) (P a) * -(dt (P y.2) (P y.1) (P q)) < dt (P y.2) (P y.1) (P a) * -(dt (P x.2) (P x.1) (P q)))
      (fun x _ => Int.lt_irrefl _)
      (fun x y z hx hy hz h k => frac_tr (by have := hx.2.2.2.2; omega) (by have := hy.2.2.2.2; omega) (by have := hz.2.2.2.2; omega) h k)
      _ ⟨(u0, v0), hl u0 v0 e0, e0, x0⟩
    have hm1 : ∀ u v, E u v → xc (P a) (P q) (P u) (P v) →
        dt (P t) (P s) (P a) * -(dt (P v) (P u) (P q)) ≤ dt (P v) (P u) (P a) * -(dt (P t) (P s) (P q)) := by
      intro u v h hx
      exact Int.not_lt.1 (hm (u, v) (hl u v h) ⟨h, hx⟩)
    refine ⟨s, t, est, xst, fanL ⟨gw, gd, ge, gc, gp⟩ M a q s t ha hq est xst hc hm1, ?_⟩
    obtain ⟨r, r1, r2, r3, r4⟩ := fanL (ge_mir ⟨gw, gd, ge, gc, gp⟩) (mx_mir (fun i j h => (ge i j h).2.2.2) M) a q t s ha hq (ge s t est).2.2.2
      ((xc_mir _ _ _ _).2 xst) (fun p hp hx => hc p hp ((cov_mir _ _ _).1 hx))
      (fun u v h hx => by
        have := hm1 v u (ge u v h).2.2.2 ((xc_mir _ _ _ _).1 hx)
        simp only [dt_mir, Int.neg_neg]
        rw [dt_102 (P s) (P t) (P a), dt_102 (P s) (P t) (P q), dt_102 (P v) (P u) (P a), dt_102 (P v) (P u) (P q)] at this
        simp only [Int.neg_neg, Int.neg_mul, Int.mul_neg] at this ⊢
        exact this)
    simp only [dt_mir] at r2 r3 r4
    refine ⟨r, r1, by omega, ?_, ?_⟩
    · have := dt_102 (P s) (P t) (P r); omega
    · have := dt_102 (P t) (P a) (P r); omega
  · left
    exact M a q ha hq aq hc (fun c d h hx => hE ⟨c, d, h, hx⟩)
theorem fan {n : Nat} {P : Nat → Int × Int × Int} {E : Nat → Nat → Prop} (G : Ge n P E) (M : Mx n P E)
    (a q : Nat) (ha : a < n) (hq : q < n) (aq : a ≠ q) :
    (∃ r, E a r ∧ (r = q ∨ cov (P a) (P q) (P r))) ∨ ∃ s t, E s t ∧ xc (P a) (P q) (P s) (P t) ∧
      (∃ r, E a r ∧ 0 < dt (P a) (P q) (P r) ∧ 0 ≤ dt (P t) (P s) (P r) ∧ 0 ≤ dt (P s) (P a) (P r)) ∧
      (∃ r, E a r ∧ dt (P a) (P q) (P r) < 0 ∧ 0 ≤ dt (P t) (P s) (P r) ∧ 0 ≤ dt (P a) (P t) (P r)) := by
  by_cases h : ∃ p, p < n ∧ cov (P a) (P q) (P p)
  · have gw := G.1
    obtain ⟨q0, ⟨hq0, c0⟩, m0⟩ := min_f n (fun p => p < n ∧ cov (P a) (P q) (P p)) (fun p => sqd (P a) (P p)) (fun x hx => hx.1) h
    have wa := gw a ha
    have wq := gw q hq
    have w0 := gw q0 hq0
    obtain ⟨k, l, hk, hl, e1, e2, dq⟩ := cov_comb wa wq w0 c0
    have L := dt_lin e1 e2 wa wq w0
    have kl : 0 < k + l := by omega
    have La : ∀ z, (k + l) * dt (P a) (P q0) z = l * dt (P a) (P q) z := by
      intro z
      have := L z (P a)
      rw [dt_baa, Int.mul_zero, Int.zero_add, dt_201 (P a) (P q0) z, dt_201 (P a) (P q) z] at this
      have x1 := dt_120 (P q0) z (P a)
      have x2 := dt_120 (P q) z (P a)
      have x3 := dt_120 (P a) (P q0) z
      have x4 := dt_120 (P a) (P q) z
      have x5 := dt_120 z (P a) (P q0)
      have x6 := dt_120 z (P a) (P q)
      grind
    have ne : a ≠ q0 := by
      intro e
      have := c0.2
      rw [← e] at this
      simp only [dotp] at this
      have := this
      grind
    rcases fan0 G M a q0 ha hq0 ne (fun p hp hc => by
      obtain ⟨k2, l2, hk2, hl2, f1, f2, dq2⟩ := cov_comb wa w0 (gw p hp) hc
      have : cov (P a) (P q) (P p) := by
        refine ⟨?_, ?_⟩
        · have y1 := La (P p)
          rw [hc.1, Int.mul_zero] at y1
          exact zer_of hl y1.symm
        · have y2 := hc.2
          have y3 : (k + l) * dotp (P a) (P q0) (P p) = k * dotp (P a) (P a) (P p) + l * dotp (P a) (P q) (P p) := by
            simp only [dotp]; grind
          have y4 : 0 ≤ dotp (P a) (P a) (P p) := by
            have z1 := sq_nn ((P a).1 - (P p).1)
            have z2 := sq_nn ((P a).2.1 - (P p).2.1)
            simp only [dotp]; omega
          have y5 := m_PN kl y2
          have y6 := m_pp (Int.le_of_lt hk) y4
          exact neg_of hl (x := dotp (P a) (P q) (P p)) (by omega)
      have := m0 p ⟨hp, this⟩
      omega) with hE | ⟨s, t, est, ⟨x1, x2, x3, x4⟩, ⟨r1, er1, q1, q2, q3⟩, ⟨r2, er2, q4, q5, q6⟩⟩
    · left
      exact ⟨q0, hE, Or.inr c0⟩
    · right
      have Ls := La (P s)
      have Lt := La (P t)
      have Lr1 := La (P r1)
      have Lr2 := La (P r2)
      have y1 := m_PP kl x1
      have y2 := m_PN kl x2
      have y3 := m_PP kl q1
      have y4 := m_PN kl q4
      refine ⟨s, t, est, ⟨pos_of hl (by omega), neg_of hl (by omega), x3, ?_⟩, ⟨r1, er1, pos_of hl (by omega), q2, q3⟩, ⟨r2, er2, neg_of hl (by omega), q5, q6⟩⟩
      have y5 := L (P t) (P s)
      have y6 := m_PN kl x4
      have y7 := m_PP hk x3
      exact neg_of hl (x := dt (P t) (P s) (P q)) (by omega)
  · rcases fan0 G M a q ha hq aq (fun p hp hc => h ⟨p, hp, hc⟩) with h | h
    · exact Or.inl ⟨q, h, Or.inl rfl⟩
    · exact Or.inr h

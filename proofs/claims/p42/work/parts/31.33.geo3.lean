/-- each edge with a point on its left has a third corner there -/
def Em (n : Nat) (P : Nat → Int × Int × Int) (a b c : Nat) : Prop :=
  ∀ p, p < n → p ≠ a → p ≠ b → p ≠ c → ¬ tin (P a) (P b) (P c) (P p)
/-- c is the third corner of a triangle to the left of ab -/
def Ap (n : Nat) (P : Nat → Int × Int × Int) (E : Nat → Nat → Prop) (a b c : Nat) : Prop :=
  E a b ∧ E b c ∧ E c a ∧ 0 < dt (P a) (P b) (P c) ∧ Em n P a b c
theorem dir_pos {a q x : Int × Int × Int} (wa : a.2.2 = 1) (wq : q.2.2 = 1) (wx : x.2.2 = 1) (h : x = q ∨ cov a q x) :
    ∃ m l : Int, 0 < m ∧ 0 < l ∧ ∀ z, m * dt a x z = l * dt a q z := by
  rcases h with e | h
  · exact ⟨1, 1, by omega, by omega, fun z => by rw [e]⟩
  · obtain ⟨k, l, hk, hl, e1, e2, _⟩ := cov_comb wa wq wx h
    refine ⟨k + l, l, by omega, hl, fun z => ?_⟩
    have := dt_lin e1 e2 wa wq wx z a
    rw [dt_baa, Int.mul_zero, Int.zero_add, ← dt_120 z a x, ← dt_120 z a q] at this
    exact this
theorem has_left {n : Nat} {P : Nat → Int × Int × Int} {E : Nat → Nat → Prop} (G : Ge n P E) (M : Mx n P E)
    (a b q : Nat) (ha : a < n) (hq : q < n) (h : 0 < dt (P a) (P b) (P q)) :
    ∃ r, E a r ∧ 0 < dt (P a) (P b) (P r) := by
  have gw := G.1
  have ge := G.2.2.1
  have aq : a ≠ q := by intro e; rw [← e, dt_aba] at h; omega
  rcases fan G M a q ha hq aq with ⟨r, er, hr⟩ | ⟨s, t, est, ⟨x1, x2, x3, x4⟩, ⟨r1, er1, q1, q2, q3⟩, ⟨r2, er2, q4, q5, q6⟩⟩
  · refine ⟨r, er, ?_⟩
    obtain ⟨m, l, hm, hl, L⟩ := dir_pos (x := P r) (gw a ha) (gw q hq) (gw r (ge a r er).2.1) (by
      rcases hr with e | h
      · left; rw [e]
      · exact Or.inr h)
    have e1 := L (P b)
    have e2 := dt_021 (P a) (P b) (P r)
    have e3 := dt_021 (P a) (P b) (P q)
    have e4 := m_PP hl h
    rw [e2, e3, Int.mul_neg, Int.mul_neg] at e1
    exact pos_of hm (by omega)
  · rcases Int.lt_or_le 0 (dt (P a) (P b) (P s)) with z | z
    · refine ⟨r1, er1, ?_⟩
      rcases Int.lt_or_le 0 (dt (P a) (P b) (P r1)) with y | y
      · exact y
      · exact (sl_m1 (P a) (P b) (P q) (P s) (P t) (P r1) h x1 q1 q3 z y).elim
    · rcases Int.lt_or_le 0 (dt (P a) (P b) (P t)) with z2 | z2
      · refine ⟨r2, er2, ?_⟩
        rcases Int.lt_or_le 0 (dt (P a) (P b) (P r2)) with y | y
        · exact y
        · exact (sl_m3 (P a) (P b) (P q) (P s) (P t) (P r2) h x2 q4 q6 z2 y).elim
      · exact (sl_m2 (P a) (P b) (P q) (P s) (P t) h x1 x2 x3 z z2).elim
theorem on_edge {n : Nat} {P : Nat → Int × Int × Int} {E : Nat → Nat → Prop} (G : Ge n P E) {a b q : Nat} (hab : E a b) (hq : q < n)
    (z : Int × Int × Int) (h0 : dt (P a) (P b) (P q) = 0) (h1 : 0 < dt (P a) (P q) z) (h2 : 0 < dt (P q) (P b) z) : False := by
  obtain ⟨gw, gd, ge, gc, gp⟩ := G
  obtain ⟨ha, hb, _, _⟩ := ge a b hab
  exact gp a b q hab hq (cov_p (gw a ha) (gw b hb) (gw q hq) h0 h1 h2)
theorem eq_of3 {a b q : Int × Int × Int} (wa : a.2.2 = 1) (wb : b.2.2 = 1) (wq : q.2.2 = 1) (z : Int × Int × Int)
    (hz : dt a b z ≠ 0) (h0 : dt a b q = 0) (h1 : dt a q z = 0) : q = a := by
  have ea : dt a b z * (q.1 - a.1) = 0 := by
    simp only [dt, wa, wb, wq] at h0 h1 ⊢; grind
  have eb : dt a b z * (q.2.1 - a.2.1) = 0 := by
    simp only [dt, wa, wb, wq] at h0 h1 ⊢; grind
  have f1 : q.1 - a.1 = 0 := (Int.mul_eq_zero.1 ea).resolve_left hz
  have f2 : q.2.1 - a.2.1 = 0 := (Int.mul_eq_zero.1 eb).resolve_left hz
  exact Prod.ext (by omega) (Prod.ext (by omega) (by omega))
/-- a point of the closed triangle that is no corner and on no edge from a lies strictly between ab and ac -/
theorem tin_str {n : Nat} {P : Nat → Int × Int × Int} {E : Nat → Nat → Prop} (G : Ge n P E) {a b c q : Nat} (hab : E a b) (hq : q < n) (hc : c < n)
    (qa : q ≠ a) (qb : q ≠ b) (h : 0 < dt (P a) (P b) (P c)) (t : tin (P a) (P b) (P c) (P q)) : 0 < dt (P a) (P b) (P q) := by
  have G0 := G
  obtain ⟨gw, gd, ge, gc, gp⟩ := G
  obtain ⟨ha, hb, _, _⟩ := ge a b hab
  obtain ⟨t1, t2, t3⟩ := t
  have wa := gw a ha
  have wb := gw b hb
  have wq := gw q hq
  have wc := gw c hc
  rcases Int.lt_or_le 0 (dt (P a) (P b) (P q)) with z | z
  · exact z
  · exfalso
    have z0 : dt (P a) (P b) (P q) = 0 := by omega
    have e1 := dt_120 (P a) (P q) (P c)
    have e2 := dt_201 (P q) (P b) (P c)
    have e3 := dt_120 (P q) (P b) (P c)
    have e5 := dt_201 (P a) (P q) (P c)
    have e6 := dt_021 (P q) (P b) (P c)
    have e7 := dt_120 (P q) (P c) (P b)
    -- the two parts
    have k1 : 0 ≤ dt (P a) (P q) (P c) := by have := dt_201 (P a) (P q) (P c); omega
    have k2 : 0 ≤ dt (P q) (P b) (P c) := by omega
    have n1 : dt (P a) (P q) (P c) ≠ 0 := by
      intro e
      have := eq_of3 wa wb wq (P c) (by omega) z0 e
      exact qa (gd q a hq ha this)
    have n2 : dt (P q) (P b) (P c) ≠ 0 := by
      intro e
      have := eq_of3 wb wa wq (P c) (by have := dt_102 (P a) (P b) (P c); omega) (by have := dt_102 (P a) (P b) (P q); omega) (by have := dt_102 (P q) (P b) (P c); omega)
      exact qb (gd q b hq hb this)
    exact on_edge G0 hab hq (P c) z0 (by omega) (by omega)
theorem third_ex {n : Nat} {P : Nat → Int × Int × Int} {E : Nat → Nat → Prop} (G : Ge n P E) (M : Mx n P E)
    (a b q0 : Nat) (hab : E a b) (hq0 : q0 < n) (h : 0 < dt (P a) (P b) (P q0)) :
    ∃ c, Ap n P E a b c := by
  have G0 := G
  obtain ⟨gw, gd, ge, gc, gp⟩ := G
  obtain ⟨ha, hb, ab, hba⟩ := ge a b hab
  obtain ⟨r0, er0, hr0⟩ := has_left G0 M a b q0 ha hq0 h
  obtain ⟨c, ⟨eac, hc0⟩, mc⟩ := min_n n (fun r => E a r ∧ 0 < dt (P a) (P b) (P r)) (fun x y => 0 < dt (P a) (P x) (P y))
    (fun x _ => by rw [dt_baa]; omega)
    (fun x y z hx hy hz h k => by
      rcases Int.lt_or_le 0 (dt (P a) (P x) (P z)) with q | q
      · exact q
      · exact (sl_half (P a) (P b) (P x) (P y) (P z) hx.2 hy.2 hz.2 h k q).elim)
    (fun x hx => (ge a x hx.1).2.1) ⟨r0, er0, hr0⟩
  obtain ⟨_, hcn, ac, hca⟩ := ge a c eac
  have wa := gw a ha
  have wb := gw b hb
  have wc := gw c hcn
  have bc : b ≠ c := by intro e; rw [e, dt_baa] at hc0; omega
  have em : Em n P a b c := by
    intro q hq qa qb qc ht
    have s1 := tin_str G0 hab hq hcn qa qb hc0 ht
    have s2 := tin_str G0 hca hq hb qc qa (by have := dt_201 (P a) (P b) (P c); omega) ⟨ht.2.2, ht.1, ht.2.1⟩
    have t2 := ht.2.1
    have s3 : 0 < dt (P a) (P q) (P c) := by have := dt_201 (P a) (P q) (P c); omega
    rcases fan G0 M a q ha hq (Ne.symm qa) with ⟨r, er, hr⟩ | ⟨s, t, est, ⟨x1, x2, x3, x4⟩, ⟨r1, er1, q1, q2, q3⟩, ⟨r2, er2, q4, q5, q6⟩⟩
    · obtain ⟨m, l, hm, hl, L⟩ := dir_pos (x := P r) (gw a ha) (gw q hq) (gw r (ge a r er).2.1) (by
        rcases hr with e | h
        · left; rw [e]
        · exact Or.inr h)
      apply mc r ⟨er, ?_⟩
      · have e1 := L (P c)
        exact pos_of hm (by rw [e1]; exact m_PP hl s3)
      · have e1 := L (P b)
        have e2 := dt_021 (P a) (P b) (P r)
        have e3 := dt_021 (P a) (P b) (P q)
        have e4 := m_PP hl s1
        rw [e2, e3, Int.mul_neg, Int.mul_neg] at e1
        exact pos_of hm (by omega)
    · obtain ⟨hs, ht', _, ets⟩ := ge s t est
      rcases Int.lt_or_le 0 (dt (P a) (P s) (P c)) with z | z
      · have y1 : 0 < dt (P a) (P b) (P s) := by
          rcases Int.lt_or_le 0 (dt (P a) (P b) (P s)) with y | y
          · exact y
          · exact (sl_m4 (P a) (P b) (P c) (P q) (P s) s1 s3 x1 z hc0 y).elim
        have y2 : 0 < dt (P a) (P r1) (P c) := by
          rcases Int.lt_or_le 0 (dt (P a) (P r1) (P c)) with y | y
          · exact y
          · exact (sl_m5 (P a) (P c) (P q) (P s) (P r1) x1 z s3 q1 q3 y).elim
        have y3 : 0 < dt (P a) (P b) (P r1) := by
          rcases Int.lt_or_le 0 (dt (P a) (P b) (P r1)) with y | y
          · exact y
          · exact (sl_m1 (P a) (P b) (P q) (P s) (P t) (P r1) s1 x1 q1 q3 y1 y).elim
        exact mc r1 ⟨er1, y3⟩ y2
      · rcases Int.lt_or_le 0 (dt (P a) (P b) (P t)) with z2 | z2
        · have y1 : 0 < dt (P a) (P b) (P r2) := by
            rcases Int.lt_or_le 0 (dt (P a) (P b) (P r2)) with y | y
            · exact y
            · exact (sl_m6 (P a) (P b) (P q) (P t) (P r2) z2 x2 s1 q4 q6 y).elim
          have y2 : 0 < dt (P a) (P r2) (P c) := by
            rcases Int.lt_or_le 0 (dt (P a) (P r2) (P c)) with y | y
            · exact y
            · exact (sl_m7 (P a) (P b) (P c) (P q) (P r2) y1 hc0 s1 q4 s3 y).elim
          exact mc r2 ⟨er2, y1⟩ y2
        · exact sl_m8 (P a) (P b) (P c) (P q) (P s) (P t) wa wb wc (gw s hs) (gw t ht') hc0 s1 s3 t2 x1 x2 x3 x4 z z2
            (gc t s a c ets eac) (gc t s a b ets hab) (gp a c s eac hs) (gp a b t hab ht') (gp t s c ets hcn) (gp t s b ets hb)
  have ebc : E b c := by
    apply M b c hb hcn bc
    · intro p hp hc
      obtain ⟨k, l, hk, hl, e1, e2, _⟩ := cov_comb wb wc (gw p hp) hc
      have L := dt_lin e1 e2 wb wc (gw p hp)
      have kl : 0 < k + l := by omega
      have p1 : 0 < dt (P a) (P b) (P p) := by
        apply pos_of kl
        rw [L, dt_baa, Int.mul_zero]
        have := m_PP hl hc0
        omega
      have p2 : 0 < dt (P c) (P a) (P p) := by
        apply pos_of kl
        rw [L, dt_aba, Int.mul_zero]
        have := dt_201 (P a) (P b) (P c)
        have := m_PP hk (show 0 < dt (P c) (P a) (P b) by omega)
        omega
      apply em p hp ?_ ?_ ?_ ⟨Int.le_of_lt p1, ?_, Int.le_of_lt p2⟩
      · intro e; rw [e, dt_aba] at p1; omega
      · intro e; rw [e, dt_baa] at p1; omega
      · intro e; rw [e, dt_aba] at p2; omega
      · rw [hc.1]; omega
    · intro u v huv hx
      obtain ⟨x1, x2, x3, x4⟩ := hx
      obtain ⟨hu, hv, _, hvu⟩ := ge u v huv
      by_cases ua : u = a
      · subst ua
        have := dt_120 (P u) (P b) (P v)
        have := dt_201 (P u) (P b) (P v)
        have := dt_120 (P v) (P u) (P c)
        have := dt_102 (P u) (P c) (P v)
        have := dt_021 (P u) (P c) (P v)
        have := dt_120 (P u) (P v) (P c)
        have := dt_102 (P u) (P v) (P c)
        have y1 : 0 < dt (P u) (P b) (P v) := by omega
        have y2 : 0 < dt (P u) (P v) (P c) := by omega
        exact mc v ⟨huv, y1⟩ y2
      · apply sl_m9 (P a) (P b) (P c) (P u) (P v) wa (gw u hu) (gw v hv) hc0 x1 x2 x3 x4 (gc u v a b huv hab) (gc u v c a huv hca) (gp u v a huv ha)
        apply em u hu ua
        · intro e; rw [e, dt_aba] at x1; omega
        · intro e; rw [e, dt_baa] at x1; omega
  exact ⟨c, hab, ebc, hca, hc0, em⟩
/-- a linear key -/
def key (K : Int) (a v : Int × Int × Int) : Int := K * (v.1 - v.2.2 * a.1) + (v.2.1 - v.2.2 * a.2.1)
theorem key_bary (K : Int) (c a o s r : Int × Int × Int) :
    dt a o s * key K c r = dt o s r * key K c a + dt s a r * key K c o + dt a o r * key K c s := by
  simp only [dt, key]; grind
theorem key_mix (K : Int) (c a q : Int × Int × Int) (A B : Int) : key K c (mix A a B q) = A * key K c a + B * key K c q := by
  simp only [key, mix]; grind
theorem key_cross (K : Int) (c a q s t : Int × Int × Int) :
    -(dt t s q) * key K c a + dt t s a * key K c q = dt a q s * key K c t + -(dt a q t) * key K c s := by
  simp only [dt, key]; grind
theorem key_self (K : Int) (a : Int × Int × Int) (wa : a.2.2 = 1) : key K a a = 0 := by
  simp only [key, wa]; grind
theorem down {n : Nat} {P : Nat → Int × Int × Int} {E : Nat → Nat → Prop} (G : Ge n P E) (M : Mx n P E) (K : Int)
    (a q : Nat) (ha : a < n) (hq : q < n) (h : key K (P a) (P q) < 0) : ∃ r, E a r ∧ key K (P a) (P r) < 0 := by
  have G0 := G
  obtain ⟨gw, gd, ge, gc, gp⟩ := G
  have wa := gw a ha
  have k0 := key_self K (P a) wa
  have aq : a ≠ q := by intro e; rw [← e, k0] at h; omega
  rcases fan G0 M a q ha hq aq with ⟨r, er, hr⟩ | ⟨s, t, est, ⟨x1, x2, x3, x4⟩, ⟨r1, er1, q1, q2, q3⟩, ⟨r2, er2, q4, q5, q6⟩⟩
  · refine ⟨r, er, ?_⟩
    rcases hr with e | hr
    · rw [e]; exact h
    · have wr := gw r (ge a r er).2.1
      obtain ⟨k, l, hk, hl, e1, e2, _⟩ := cov_comb wa (gw q hq) wr hr
      have e3 : (k + l) * key K (P a) (P r) = l * key K (P a) (P q) := by
        simp only [key, wr, gw q hq]; grind
      exact neg_of (k := k + l) (by omega) (by rw [e3]; exact m_PN hl h)
  · -- the crossing point has a smaller key
    have hB : 0 < -(dt (P t) (P s) (P q)) := by omega
    have ko : dt (P a) (P q) (P s) * key K (P a) (P t) + -(dt (P a) (P q) (P t)) * key K (P a) (P s) < 0 := by
      rw [← key_cross, k0, Int.mul_zero, Int.zero_add]
      exact m_PN x3 h
    rcases Int.lt_or_le (key K (P a) (P s)) 0 with z | z
    · refine ⟨r1, er1, ?_⟩
      have b := key_bary K (P a) (P a) (mix (-(dt (P t) (P s) (P q))) (P a) (dt (P t) (P s) (P a)) (P q)) (P s) (P r1)
      simp only [k0, Int.mul_zero, Int.zero_add, key_mix, mix_2, dt_aab] at b
      have p1 := m_PP x3 x1
      have p2 := m_PN (m_PP x3 q1) z
      have p3 := m_pn q3 (Int.le_of_lt (m_PN x3 h))
      exact neg_of p1 (by omega)
    · have zt : key K (P a) (P t) < 0 := by
        have p1 := m_pp (Int.le_of_lt (show 0 < -(dt (P a) (P q) (P t)) by omega)) z
        exact neg_of x1 (by omega)
      refine ⟨r2, er2, ?_⟩
      have b := key_bary K (P a) (P a) (P t) (mix (-(dt (P t) (P s) (P q))) (P a) (dt (P t) (P s) (P a)) (P q)) (P r2)
      simp only [k0, Int.mul_zero, Int.zero_add, key_mix, mix_3, mix_1, dt_aba, dt_aab] at b
      have e1 := dt_021 (P a) (P q) (P t)
      have e2 := dt_102 (P a) (P q) (P r2)
      have p1 := m_PP x3 (show 0 < dt (P a) (P t) (P q) by omega)
      have p2 := m_PN (m_PP x3 (show 0 < dt (P q) (P a) (P r2) by omega)) zt
      have p3 := m_pn q6 (Int.le_of_lt (m_PN x3 h))
      exact neg_of p1 (by omega)

/-- n points in general order, and edges between them that do not cross and cover no point -/
def Ge (n : Nat) (P : Nat → Int × Int × Int) (E : Nat → Nat → Prop) : Prop :=
  (∀ i, i < n → (P i).2.2 = 1) ∧ (∀ i j, i < n → j < n → P i = P j → i = j)
  ∧ (∀ i j, E i j → i < n ∧ j < n ∧ i ≠ j ∧ E j i)
  ∧ (∀ a b c d, E a b → E c d → ¬ xc (P a) (P b) (P c) (P d))
  ∧ (∀ a b p, E a b → p < n → ¬ cov (P a) (P b) (P p))
/-- each pair that has room is an edge -/
def Mx (n : Nat) (P : Nat → Int × Int × Int) (E : Nat → Nat → Prop) : Prop :=
  ∀ a b, a < n → b < n → a ≠ b → (∀ p, p < n → ¬ cov (P a) (P b) (P p)) → (∀ c d, E c d → ¬ xc (P a) (P b) (P c) (P d)) → E a b
theorem xc_sw {a b c d : Int × Int × Int} (h : xc a b c d) : xc c d b a := by
  obtain ⟨h1, h2, h3, h4⟩ := h
  have := dt_102 c d b; have := dt_102 c d a
  exact ⟨by omega, by omega, h1, h2⟩
theorem xc_rv {a b c d : Int × Int × Int} (h : xc a b c d) : xc b a d c := by
  obtain ⟨h1, h2, h3, h4⟩ := h
  have := dt_102 a b c; have := dt_102 a b d; have := dt_102 c d a; have := dt_102 c d b
  exact ⟨by omega, by omega, by omega, by omega⟩
theorem min_l {A : Type} (R : A → Prop) (lt : A → A → Prop) (ir : ∀ x, R x → ¬ lt x x)
    (tr : ∀ x y z, R x → R y → R z → lt x y → lt y z → lt x z) :
    ∀ l : List A, (∃ x, x ∈ l ∧ R x) → ∃ m, m ∈ l ∧ R m ∧ ∀ x, x ∈ l → R x → ¬ lt x m := by
  intro l
  induction l with
  | nil => intro h; obtain ⟨x, h, _⟩ := h; cases h
  | cons a l ih =>
    intro _
    by_cases hl : ∃ x, x ∈ l ∧ R x
    · obtain ⟨m, h1, h2, h3⟩ := ih hl
      by_cases ha : R a ∧ lt a m
      · refine ⟨a, List.mem_cons_self, ha.1, ?_⟩
        intro x hx rx hxa
        rcases List.mem_cons.1 hx with e | hx
        · rw [e] at hxa; exact ir a ha.1 hxa
        · exact h3 x hx rx (tr x a m rx ha.1 h2 hxa ha.2)
      · refine ⟨m, List.mem_cons_of_mem _ h1, h2, ?_⟩
        intro x hx rx hxm
        rcases List.mem_cons.1 hx with e | hx
        · subst e; exact ha ⟨rx, hxm⟩
        · exact h3 x hx rx hxm
    · rename_i h
      obtain ⟨x, hx, rx⟩ := h
      have xa : x = a := by
        rcases List.mem_cons.1 hx with e | hx
        · exact e
        · exact absurd ⟨x, hx, rx⟩ hl
      subst xa
      refine ⟨x, List.mem_cons_self, rx, ?_⟩
      intro y hy ry hyx
      rcases List.mem_cons.1 hy with e | hy
      · rw [e] at hyx; exact ir x rx hyx
      · exact hl ⟨y, hy, ry⟩
theorem min_n (n : Nat) (R : Nat → Prop) (lt : Nat → Nat → Prop) (ir : ∀ x, R x → ¬ lt x x)
    (tr : ∀ x y z, R x → R y → R z → lt x y → lt y z → lt x z) (hb : ∀ x, R x → x < n) (h : ∃ x, R x) :
    ∃ m, R m ∧ ∀ x, R x → ¬ lt x m := by
  obtain ⟨x, hx⟩ := h
  obtain ⟨m, _, h2, h3⟩ := min_l R lt ir tr (List.range n) ⟨x, List.mem_range.2 (hb x hx), hx⟩
  exact ⟨m, h2, fun x hx => h3 x (List.mem_range.2 (hb x hx)) hx⟩
theorem min_f (n : Nat) (R : Nat → Prop) (f : Nat → Int) (hb : ∀ x, R x → x < n) (h : ∃ x, R x) :
    ∃ m, R m ∧ ∀ x, R x → f m ≤ f x := by
  obtain ⟨m, h1, h2⟩ := min_n n R (fun x y => f x < f y) (fun x _ => Int.lt_irrefl _)
    (fun x y z _ _ _ h k => Int.lt_trans h k) hb h
  exact ⟨m, h1, fun x hx => Int.not_lt.1 (h2 x hx)⟩
/-- a covered point is a mean of the two ends -/
theorem cov_comb {p q x : Int × Int × Int} (wp : p.2.2 = 1) (wq : q.2.2 = 1) (wx : x.2.2 = 1) (h : cov p q x) :
    ∃ k l : Int, 0 < k ∧ 0 < l ∧ (k + l) * x.1 = k * p.1 + l * q.1 ∧ (k + l) * x.2.1 = k * p.2.1 + l * q.2.1 ∧ sqd p x < sqd p q := by
  obtain ⟨c, d⟩ := h
  have hU : ∀ U1 U2 W1 W2 : Int, U1 * W2 - U2 * W1 = 0 → W1 * W1 + W2 * W2 < W1 * U1 + W2 * U2 →
      0 < W1 * U1 + W2 * U2 ∧ W1 * U1 + W2 * U2 < U1 * U1 + U2 * U2 := by
    intro U1 U2 W1 W2 c d
    have a1 := sq_nn W1
    have a2 := sq_nn W2
    have l : 0 < W1 * U1 + W2 * U2 := by omega
    refine ⟨l, ?_⟩
    have e : (W1 * U1 + W2 * U2) * (W1 * U1 + W2 * U2) = (W1 * W1 + W2 * W2) * (U1 * U1 + U2 * U2) := by grind
    rcases Int.lt_or_le (W1 * U1 + W2 * U2) (U1 * U1 + U2 * U2) with k | k
    · exact k
    · exfalso
      have u1 := sq_nn U1
      have u2 := sq_nn U2
      have n1 := m_pp (Int.sub_nonneg.2 k) (Int.le_of_lt l)
      have n2 := m_pp (x := U1 * U1 + U2 * U2) (y := W1 * U1 + W2 * U2 - (W1 * W1 + W2 * W2)) (by omega) (by omega)
      have hu : U1 * U1 + U2 * U2 ≠ 0 := by
        intro z
        have z1 : U1 = 0 := by
          rcases Int.lt_trichotomy U1 0 with h | h | h
          · have := m_NN h h; omega
          · exact h
          · have := m_PP h h; omega
        have z2 : U2 = 0 := by
          rcases Int.lt_trichotomy U2 0 with h | h | h
          · have := m_NN h h; omega
          · exact h
          · have := m_PP h h; omega
        rw [z1, z2, Int.mul_zero, Int.mul_zero] at l
        omega
      have n3 := m_PP (x := U1 * U1 + U2 * U2) (y := W1 * U1 + W2 * U2 - (W1 * W1 + W2 * W2)) (by omega) (by omega)
      grind
  have h1 := hU (q.1 - p.1) (q.2.1 - p.2.1) (x.1 - p.1) (x.2.1 - p.2.1)
    (by simp only [dt, wp, wq, wx] at c; grind) (by simp only [dotp] at d; grind)
  refine ⟨(q.1 - p.1) * (q.1 - p.1) + (q.2.1 - p.2.1) * (q.2.1 - p.2.1) - ((x.1 - p.1) * (q.1 - p.1) + (x.2.1 - p.2.1) * (q.2.1 - p.2.1)),
    (x.1 - p.1) * (q.1 - p.1) + (x.2.1 - p.2.1) * (q.2.1 - p.2.1), by omega, h1.1, ?_, ?_, ?_⟩
  · simp only [dt, wp, wq, wx] at c; grind
  · simp only [dt, wp, wq, wx] at c; grind
  · have h2 := h1.2
    simp only [dotp] at d
    simp only [sqd]
    grind
/-- brackets are linear in the last place -/
theorem dt_lin {x p q : Int × Int × Int} {k l : Int} (h1 : (k + l) * x.1 = k * p.1 + l * q.1) (h2 : (k + l) * x.2.1 = k * p.2.1 + l * q.2.1)
    (wp : p.2.2 = 1) (wq : q.2.2 = 1) (wx : x.2.2 = 1) (u v : Int × Int × Int) :
    (k + l) * dt u v x = k * dt u v p + l * dt u v q := by
  simp only [dt, wp, wq, wx]; grind
theorem pos_of {k x : Int} (hk : 0 < k) (h : 0 < k * x) : 0 < x := by
  rcases Int.lt_trichotomy x 0 with h1 | h1 | h1
  · have := m_PN hk h1; omega
  · rw [h1, Int.mul_zero] at h; omega
  · exact h1
theorem neg_of {k x : Int} (hk : 0 < k) (h : k * x < 0) : x < 0 := by
  rcases Int.lt_trichotomy x 0 with h1 | h1 | h1
  · exact h1
  · rw [h1, Int.mul_zero] at h; omega
  · have := m_PP hk h1; omega
theorem zer_of {k x : Int} (hk : 0 < k) (h : k * x = 0) : x = 0 := by
  rcases Int.lt_trichotomy x 0 with h1 | h1 | h1
  · have := m_PN hk h1; omega
  · exact h1
  · have := m_PP hk h1; omega
theorem nn_of {k x : Int} (hk : 0 < k) (h : 0 ≤ k * x) : 0 ≤ x := by
  rcases Int.lt_trichotomy x 0 with h1 | h1 | h1
  · have := m_PN hk h1; omega
  · omega
  · omega
theorem look {n : Nat} {P : Nat → Int × Int × Int} {E : Nat → Nat → Prop} (G : Ge n P E) (M : Mx n P E)
    (a s : Nat) (o : Int × Int × Int) (ha : a < n) (hs : s < n) (wo : 0 < o.2.2) (h0 : 0 < dt (P a) o (P s))
    (h1 : ∀ u v, E u v → ¬ xc (P a) o (P u) (P v)) (h2 : ∀ u v, E u v → ¬ xc o (P s) (P u) (P v))
    (h3 : ∀ u v, E u v → dt (P u) (P v) o = 0 → 0 < dt (P a) o (P u) → dt (P a) o (P v) < 0 → dt (P u) (P v) (P s) = 0)
    (h4 : ∀ p, p < n → dt (P a) o (P p) = 0 → 0 < dt (P a) (P p) (P s) → 0 ≤ dt (P p) o (P s) → False) :
    ∃ r, r < n ∧ E a r ∧ 0 < dt (P a) o (P r) ∧ 0 ≤ dt o (P s) (P r) ∧ 0 ≤ dt (P s) (P a) (P r) := by
  obtain ⟨gw, gd, ge, gc, gp⟩ := G
  let R : Nat → Prop := fun r => r < n ∧ 0 < dt (P a) o (P r) ∧ 0 ≤ dt o (P s) (P r) ∧ 0 ≤ dt (P s) (P a) (P r)
  have hR : ∀ r, R r ↔ (r < n ∧ 0 < dt (P a) o (P r) ∧ 0 ≤ dt o (P s) (P r) ∧ 0 ≤ dt (P s) (P a) (P r)) := fun r => Iff.rfl
  have Rs : R s := (hR s).2 ⟨hs, h0, by rw [dt_baa]; omega, by rw [dt_aba]; omega⟩
  obtain ⟨r0, Rr0, m0⟩ := min_n n R (fun x y => 0 < dt (P a) (P x) (P y))
    (fun x _ => by rw [dt_baa]; omega)
    (fun x y z hx hy hz h k => by
      rcases Int.lt_or_le 0 (dt (P a) (P x) (P z)) with q | q
      · exact q
      · exact (sl_half (P a) o (P x) (P y) (P z) hx.2.1 hy.2.1 hz.2.1 h k q).elim)
    (fun x hx => hx.1) ⟨s, Rs⟩
  obtain ⟨r, ⟨Rr, hr0⟩, mr⟩ := min_f n (fun r => R r ∧ dt (P a) (P r0) (P r) = 0) (fun r => sqd (P a) (P r))
    (fun x hx => hx.1.1) ⟨r0, Rr0, dt_baa _ _⟩
  have rm : ∀ x, R x → 0 ≤ dt (P a) (P r) (P x) := by
    intro x hx
    rcases Int.lt_or_le (dt (P a) (P r) (P x)) 0 with q | q
    · have := m0 x hx
      have e := dt_021 (P a) (P r0) (P x)
      exact (sl_dir (P a) o (P r0) (P r) (P x) Rr0.2.1 Rr.2.1 hx.2.1 hr0 (by omega) q).elim
    · exact q
  have wa := gw a ha
  have ws := gw s hs
  have wr := gw r Rr.1
  refine ⟨r, Rr.1, ?_, Rr.2⟩
  apply M a r ha Rr.1
  · intro e
    have := Rr.2.1
    rw [e, dt_aba] at this
    omega
  · intro p hp hc
    obtain ⟨k, l, hk, hl, e1, e2, dq⟩ := cov_comb wa wr (gw p hp) hc
    have L := dt_lin e1 e2 wa wr (gw p hp)
    have kl : 0 < k + l := by omega
    have Rp : R p := by
      refine ⟨hp, ?_, ?_, ?_⟩
      · apply pos_of kl
        rw [L, dt_aba, Int.mul_zero]
        have := m_PP hl Rr.2.1
        omega
      · apply nn_of kl
        rw [L]
        have q1 := dt_120 (P a) o (P s)
        have q2 := m_PP hk (show 0 < dt o (P s) (P a) by omega)
        have q3 := m_pp (Int.le_of_lt hl) Rr.2.2.1
        omega
      · apply nn_of kl
        rw [L, dt_baa, Int.mul_zero]
        have q3 := m_pp (Int.le_of_lt hl) Rr.2.2.2
        omega
    have := mr p ⟨Rp, by
      apply zer_of kl
      rw [L, dt_aba, hr0]
      omega⟩
    omega
  · intro v u huv hx
    obtain ⟨x1, x2, x3, x4⟩ := hx
    obtain ⟨hv, hu, huv', _⟩ := ge v u huv
    have c1 : ¬ xc (P a) o (P v) (P u) := h1 v u huv
    have c2 : ¬ xc o (P s) (P v) (P u) := h2 v u huv
    apply sl_look (P a) o (P s) (P r) (P u) (P v) wa wo ws wr (gw u hu) (gw v hv) h0 Rr.2.1 Rr.2.2.1 Rr.2.2.2 x2 x1 x3 x4
      (fun q1 q2 q3 => by have := rm u ⟨hu, q1, q2, q3⟩; omega) c1 c2
      (fun q1 q2 q3 q4 => by
        have q5 := dt_102 (P v) (P u) o
        have q6 := dt_102 (P v) (P u) (P s)
        have := h3 v u huv (by omega) q2 q3
        omega)
      (fun q1 q2 q3 q4 => by
        have q5 := dt_102 (P v) (P u) o
        have q6 := dt_102 (P v) (P u) (P s)
        have := h3 v u huv (by omega) q2 q3
        omega)
      (fun q1 q2 q3 => h4 u hu q1 q2 q3)

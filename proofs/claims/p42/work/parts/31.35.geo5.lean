/-- each edge with a point on its left has a third corner -/
def Th (n : Nat) (P : Nat → Int × Int × Int) (E : Nat → Nat → Prop) : Prop :=
  ∀ a b q, E a b → q < n → 0 < dt (P a) (P b) (P q) → ∃ c, Ap n P E a b c
/-- no part of the points is without an edge to the rest -/
def Ct (n : Nat) (E : Nat → Nat → Prop) : Prop :=
  ∀ S : Nat → Prop, (∃ p, p < n ∧ S p) → (∃ p, p < n ∧ ¬ S p) → ∃ u v, E u v ∧ S u ∧ ¬ S v
/-- a triangulation -/
def Gs (n : Nat) (P : Nat → Int × Int × Int) (E : Nat → Nat → Prop) : Prop := Ge n P E ∧ Th n P E ∧ Ct n E
def Bx (n : Nat) (P : Nat → Int × Int × Int) : Prop :=
  ∀ i, i < n → 0 ≤ (P i).1 ∧ (P i).1 ≤ 100 ∧ 0 ≤ (P i).2.1 ∧ (P i).2.1 ≤ 100
def gk (v : Int × Int × Int) : Int := 1000 * v.1 + v.2.1
theorem gk_inj {n : Nat} {P : Nat → Int × Int × Int} {E : Nat → Nat → Prop} (G : Ge n P E) (B : Bx n P) {i j : Nat} (hi : i < n) (hj : j < n)
    (h : gk (P i) = gk (P j)) : i = j := by
  have b1 := B i hi
  have b2 := B j hj
  have w1 := G.1 i hi
  have w2 := G.1 j hj
  simp only [gk] at h
  apply G.2.1 i j hi hj
  exact Prod.ext (by omega) (Prod.ext (by omega) (by omega))
theorem key_gk (a r : Int × Int × Int) (wr : r.2.2 = 1) : key 1000 a r = gk r - gk a := by
  simp only [key, gk, wr]; omega
theorem cut_mx {n : Nat} {P : Nat → Int × Int × Int} {E : Nat → Nat → Prop} (G : Ge n P E) (B : Bx n P) (M : Mx n P E) : Ct n E := by
  have ge := G.2.2.1
  intro S h1 h2
  have low : ∀ x q, x < n → q < n → gk (P q) < gk (P x) → ∃ r, E x r ∧ gk (P r) < gk (P x) := by
    intro x q hx hq h
    obtain ⟨r, er, k⟩ := down G M 1000 x q hx hq (by rw [key_gk _ _ (G.1 q hq)]; omega)
    rw [key_gk _ _ (G.1 r (ge x r er).2.1)] at k
    exact ⟨r, er, by omega⟩
  obtain ⟨p, hp, sp⟩ := h1
  obtain ⟨q, hq, sq⟩ := h2
  obtain ⟨A, hA, mA⟩ := min_f n (fun x => x < n) (fun x => gk (P x)) (fun x h => h) ⟨p, hp⟩
  by_cases sA : S A
  · obtain ⟨x, ⟨hx, sx⟩, mx⟩ := min_f n (fun x => x < n ∧ ¬ S x) (fun x => gk (P x)) (fun x h => h.1) ⟨q, hq, sq⟩
    have ne : gk (P A) ≠ gk (P x) := fun e => sx (gk_inj G B hA hx e ▸ sA)
    have := mA x hx
    obtain ⟨r, er, hr⟩ := low x A hx hA (by omega)
    refine ⟨r, x, (ge x r er).2.2.2, ?_, sx⟩
    by_cases sr : S r
    · exact sr
    · have := mx r ⟨(ge x r er).2.1, sr⟩
      omega
  · obtain ⟨x, ⟨hx, sx⟩, mx⟩ := min_f n (fun x => x < n ∧ S x) (fun x => gk (P x)) (fun x h => h.1) ⟨p, hp, sp⟩
    have ne : gk (P A) ≠ gk (P x) := fun e => sA (gk_inj G B hA hx e ▸ sx)
    have := mA x hx
    obtain ⟨r, er, hr⟩ := low x A hx hA (by omega)
    refine ⟨x, r, er, sx, ?_⟩
    intro sr
    have := mx r ⟨(ge x r er).2.1, sr⟩
    omega
theorem gs_mx {n : Nat} {P : Nat → Int × Int × Int} {E : Nat → Nat → Prop} (G : Ge n P E) (B : Bx n P) (M : Mx n P E) : Gs n P E :=
  ⟨G, fun a b q h1 h2 h3 => third_ex G M a b q h1 h2 h3, cut_mx G B M⟩
theorem em_rot {n : Nat} {P : Nat → Int × Int × Int} {a b c : Nat} (h : Em n P a b c) : Em n P b c a := by
  intro p hp h1 h2 h3 t
  exact h p hp h3 h1 h2 ⟨t.2.2, t.1, t.2.1⟩
theorem ap_rot {n : Nat} {P : Nat → Int × Int × Int} {E : Nat → Nat → Prop} {a b c : Nat} (h : Ap n P E a b c) : Ap n P E b c a := by
  obtain ⟨h1, h2, h3, h4, h5⟩ := h
  exact ⟨h2, h3, h1, by have := dt_120 (P a) (P b) (P c); omega, em_rot h5⟩
theorem ap_un {n : Nat} {P : Nat → Int × Int × Int} {E : Nat → Nat → Prop} (G : Ge n P E) {u v w x : Nat}
    (h : Ap n P E u v w) (k : Ap n P E u v x) : w = x := by
  obtain ⟨gw, gd, ge, gc, gp⟩ := G
  obtain ⟨h1, h2, h3, h4, h5⟩ := h
  obtain ⟨k1, k2, k3, k4, k5⟩ := k
  by_cases e : w = x
  · exact e
  exfalso
  obtain ⟨hw, hu, wu, euw⟩ := ge w u h3
  obtain ⟨hx, _, xu, eux⟩ := ge x u k3
  have hv := (ge u v h1).2.1
  have wv := (ge v w h2).2.2.1
  have xv := (ge v x k2).2.2.1
  exact sl_u (P u) (P v) (P w) (P x) h4 k4 (gc u w x v euw (ge v x k2).2.2.2) (gc v w u x h2 eux)
    (h5 x hx xu (Ne.symm xv) (Ne.symm e)) (k5 w hw wu (Ne.symm wv) e)
theorem ap_lt {n : Nat} {P : Nat → Int × Int × Int} {E : Nat → Nat → Prop} (G : Ge n P E) {u v w : Nat}
    (h : Ap n P E u v w) : u < n ∧ v < n ∧ w < n ∧ u ≠ v ∧ v ≠ w ∧ w ≠ u := by
  have ge := G.2.2.1
  obtain ⟨h1, h2, h3, h4, h5⟩ := h
  have q1 := ge u v h1
  have q2 := ge v w h2
  have q3 := ge w u h3
  exact ⟨q1.1, q1.2.1, q2.2.1, q1.2.2.1, q2.2.2.1, q3.2.2.1⟩
/-- the edges after a flip of ab to cd -/
def Fl (E : Nat → Nat → Prop) (a b c d x y : Nat) : Prop :=
  (E x y ∧ ¬ (x = a ∧ y = b) ∧ ¬ (x = b ∧ y = a)) ∨ (x = c ∧ y = d) ∨ (x = d ∧ y = c)
theorem fl_ge {n : Nat} {P : Nat → Int × Int × Int} {E : Nat → Nat → Prop} (G : Ge n P E) {a b c d : Nat}
    (h : Ap n P E a b c) (k : Ap n P E b a d) (q1 : 0 < dt (P a) (P d) (P c)) (q2 : 0 < dt (P d) (P b) (P c)) :
    Ge n P (Fl E a b c d) := by
  have G0 := G
  obtain ⟨ha, hb, hc, ab, bc, ca⟩ := ap_lt G h
  obtain ⟨_, _, hd, _, ad, db⟩ := ap_lt G k
  obtain ⟨gw, gd, ge, gc, gp⟩ := G
  obtain ⟨h1, h2, h3, h4, h5⟩ := h
  obtain ⟨k1, k2, k3, k4, k5⟩ := k
  have wa := gw a ha
  have wb := gw b hb
  have wc := gw c hc
  have wd := gw d hd
  have cd : c ≠ d := by intro e; rw [e, dt_baa] at q1; omega
  have eac := (ge c a h3).2.2.2
  have ebd := (ge d b k3).2.2.2
  -- no old edge crosses cd
  have nx : ∀ u v, E u v → ¬ (u = a ∧ v = b) → ¬ (u = b ∧ v = a) → ¬ xc (P c) (P d) (P u) (P v) := by
    intro u v huv n1 n2 hx
    obtain ⟨x1, x2, x3, x4⟩ := hx
    obtain ⟨hu, hv, uv, hvu⟩ := ge u v huv
    have uc : u ≠ c := by intro e; rw [e, dt_aba] at x1; omega
    have ud : u ≠ d := by intro e; rw [e, dt_baa] at x1; omega
    have vc : v ≠ c := by intro e; rw [e, dt_aba] at x2; omega
    have vd : v ≠ d := by intro e; rw [e, dt_baa] at x2; omega
    have ua : u ≠ a := by
      intro e
      rw [e] at x1
      have := dt_102 (P a) (P c) (P d)
      have := dt_120 (P a) (P c) (P d)
      have := dt_021 (P a) (P c) (P d)
      have := dt_120 (P a) (P d) (P c)
      omega
    have vb : v ≠ b := by
      intro e
      rw [e] at x2
      have := dt_120 (P b) (P c) (P d)
      have := dt_201 (P b) (P c) (P d)
      omega
    by_cases ub : u = b
    · subst ub
      have va : v ≠ a := fun e => n2 ⟨rfl, e⟩
      exact sl_f2 (P a) (P u) (P c) (P d) (P v) wa wb wc wd (gw v hv) h4 k4 x3 x4
        (gc u v a c huv eac) (gc u v d a huv (ge a d k2).2.2.2) (gp u v a huv ha) (gp a c v eac hv) (gp a d v k2 hv)
        (h5 v hv va (Ne.symm uv) vc) (k5 v hv (Ne.symm uv) va vd)
    · by_cases va : v = a
      · subst va
        exact sl_f3 (P v) (P b) (P c) (P d) (P u) wa wb wc wd (gw u hu) h4 k4 (by have := dt_012 (P v) (P u) (P c); omega) x4
          (gc v u c b hvu (ge b c h2).2.2.2) (gc v u b d hvu ebd) (gp v u b hvu hb) (gp b c u h2 hu) (gp b d u ebd hu)
          (h5 u hu ua ub uc) (k5 u hu ub ua ud)
      · exact sl_f1 (P a) (P b) (P c) (P d) (P u) (P v) wa wb wc wd (gw u hu) (gw v hv) h4 k4 q1 q2 x1 x2 x3 x4
          (gc u v b c huv h2) (gc u v d b huv k3) (gc u v a c huv eac) (gc u v d a huv (ge a d k2).2.2.2)
          (gp u v a huv ha) (gp u v b huv hb) (gp a c u eac hu)
          (h5 u hu ua ub uc) (h5 v hv va vb vc) (k5 v hv vb va vd)
  have npc : ∀ p, p < n → ¬ cov (P c) (P d) (P p) := by
    intro p hp hx
    have wp := gw p hp
    obtain ⟨m, l, hm, hl, e1, e2, _⟩ := cov_comb wc wd wp hx
    have L := dt_lin e1 e2 wc wd wp
    have ml : 0 < m + l := by omega
    have r1 : 0 < dt (P b) (P c) (P p) := by
      apply pos_of ml
      rw [L, dt_baa, Int.mul_zero]
      have := dt_120 (P d) (P b) (P c)
      have := m_PP hl (show 0 < dt (P b) (P c) (P d) by omega)
      omega
    have r2 : 0 < dt (P c) (P a) (P p) := by
      apply pos_of ml
      rw [L, dt_aba, Int.mul_zero]
      have := dt_201 (P a) (P d) (P c)
      have := m_PP hl (show 0 < dt (P c) (P a) (P d) by omega)
      omega
    have r3 : 0 < dt (P a) (P d) (P p) := by
      apply pos_of ml
      rw [L, dt_baa, Int.mul_zero]
      have := m_PP hm q1
      omega
    have r4 : 0 < dt (P d) (P b) (P p) := by
      apply pos_of ml
      rw [L, dt_aba, Int.mul_zero]
      have := m_PP hm q2
      omega
    have pa : p ≠ a := by intro e; rw [e, dt_baa] at r2; omega
    have pb : p ≠ b := by intro e; rw [e, dt_aba] at r1; omega
    have pc : p ≠ c := by intro e; rw [e, dt_baa] at r1; omega
    have pd : p ≠ d := by intro e; rw [e, dt_baa] at r3; omega
    rcases Int.lt_or_le (dt (P a) (P b) (P p)) 0 with z | z
    · have := dt_102 (P a) (P b) (P p)
      exact k5 p hp pb pa pd ⟨by omega, Int.le_of_lt r3, Int.le_of_lt r4⟩
    · exact h5 p hp pa pb pc ⟨z, Int.le_of_lt r1, Int.le_of_lt r2⟩
  refine ⟨gw, gd, ?_, ?_, ?_⟩
  · intro i j hij
    rcases hij with ⟨e, n1, n2⟩ | ⟨e1, e2⟩ | ⟨e1, e2⟩
    · obtain ⟨hi, hj, ij, eji⟩ := ge i j e
      exact ⟨hi, hj, ij, Or.inl ⟨eji, fun z => n2 ⟨z.2, z.1⟩, fun z => n1 ⟨z.2, z.1⟩⟩⟩
    · subst e1; subst e2
      exact ⟨hc, hd, cd, Or.inr (Or.inr ⟨rfl, rfl⟩)⟩
    · subst e1; subst e2
      exact ⟨hd, hc, Ne.symm cd, Or.inr (Or.inl ⟨rfl, rfl⟩)⟩
  · intro x y u v hxy huv hx
    rcases hxy with ⟨e, n1, n2⟩ | ⟨e1, e2⟩ | ⟨e1, e2⟩
    · rcases huv with ⟨f, m1, m2⟩ | ⟨f1, f2⟩ | ⟨f1, f2⟩
      · exact gc x y u v e f hx
      · subst f1; subst f2
        exact nx y x (ge x y e).2.2.2 (fun z => n2 ⟨z.2, z.1⟩) (fun z => n1 ⟨z.2, z.1⟩) (xc_sw hx)
      · subst f1; subst f2
        exact nx x y e n1 n2 (xc_rv (xc_sw hx))
    · subst e1; subst e2
      rcases huv with ⟨f, m1, m2⟩ | ⟨f1, f2⟩ | ⟨f1, f2⟩
      · exact nx u v f m1 m2 hx
      · subst f1; subst f2
        have := hx.1; rw [dt_aba] at this; omega
      · subst f1; subst f2
        have := hx.1; rw [dt_baa] at this; omega
    · subst e1; subst e2
      rcases huv with ⟨f, m1, m2⟩ | ⟨f1, f2⟩ | ⟨f1, f2⟩
      · exact nx v u (ge u v f).2.2.2 (fun z => m2 ⟨z.2, z.1⟩) (fun z => m1 ⟨z.2, z.1⟩) (xc_rv hx)
      · subst f1; subst f2
        have := hx.1; rw [dt_baa] at this; omega
      · subst f1; subst f2
        have := hx.1; rw [dt_aba] at this; omega
  · intro x y p hxy hp hx
    rcases hxy with ⟨e, n1, n2⟩ | ⟨e1, e2⟩ | ⟨e1, e2⟩
    · exact gp x y p e hp hx
    · subst e1; subst e2
      exact npc p hp hx
    · subst e1; subst e2
      exact npc p hp (cov_sw hx)
/-- the new triangle adc -/
theorem fl_ap {n : Nat} {P : Nat → Int × Int × Int} {E : Nat → Nat → Prop} (G : Ge n P E) {a b c d : Nat}
    (h : Ap n P E a b c) (k : Ap n P E b a d) (q1 : 0 < dt (P a) (P d) (P c)) (q2 : 0 < dt (P d) (P b) (P c)) :
    Ap n P (Fl E a b c d) a d c := by
  obtain ⟨ha, hb, hc, ab, bc, ca⟩ := ap_lt G h
  obtain ⟨_, _, hd, _, ad, db⟩ := ap_lt G k
  obtain ⟨h1, h2, h3, h4, h5⟩ := h
  obtain ⟨k1, k2, k3, k4, k5⟩ := k
  refine ⟨Or.inl ⟨k2, fun z => db z.2, fun z => ab z.1⟩, Or.inr (Or.inr ⟨rfl, rfl⟩), Or.inl ⟨h3, fun z => ca z.1, fun z => bc z.1.symm⟩, q1, ?_⟩
  intro p hp pa pd pc ⟨t1, t2, t3⟩
  have pb : p ≠ b := by
    intro e
    rw [e] at t2
    have := dt_021 (P d) (P b) (P c)
    omega
  rcases Int.le_total 0 (dt (P a) (P b) (P p)) with z | z
  · have y : 0 ≤ dt (P b) (P c) (P p) := by
      rcases Int.lt_or_le (dt (P b) (P c) (P p)) 0 with y | y
      · exact (sl_f4 (P a) (P b) (P c) (P d) (P p) h4 q1 q2 t2 t3 y).elim
      · exact y
    exact h5 p hp pa pb pc ⟨z, y, t3⟩
  · have y : 0 ≤ dt (P d) (P b) (P p) := by
      rcases Int.lt_or_le (dt (P d) (P b) (P p)) 0 with y | y
      · exact (sl_f5 (P a) (P b) (P c) (P d) (P p) k4 q1 q2 t1 t2 y).elim
      · exact y
    have := dt_102 (P a) (P b) (P p)
    exact k5 p hp pb pa pd ⟨by omega, t1, y⟩
theorem fl_sw (E : Nat → Nat → Prop) (a b c d x y : Nat) : Fl E b a d c x y ↔ Fl E a b c d x y := by
  simp only [Fl]
  constructor
  · rintro (⟨e, n1, n2⟩ | h | h)
    · exact Or.inl ⟨e, n2, n1⟩
    · exact Or.inr (Or.inr h)
    · exact Or.inr (Or.inl h)
  · rintro (⟨e, n1, n2⟩ | h | h)
    · exact Or.inl ⟨e, n2, n1⟩
    · exact Or.inr (Or.inr h)
    · exact Or.inr (Or.inl h)
theorem ap_ext {n : Nat} {P : Nat → Int × Int × Int} {E F : Nat → Nat → Prop} (h : ∀ x y, E x y ↔ F x y) {a b c : Nat}
    (k : Ap n P E a b c) : Ap n P F a b c :=
  ⟨(h _ _).1 k.1, (h _ _).1 k.2.1, (h _ _).1 k.2.2.1, k.2.2.2⟩
/-- the new triangle dbc -/
theorem fl_ap2 {n : Nat} {P : Nat → Int × Int × Int} {E : Nat → Nat → Prop} (G : Ge n P E) {a b c d : Nat}
    (h : Ap n P E a b c) (k : Ap n P E b a d) (q1 : 0 < dt (P a) (P d) (P c)) (q2 : 0 < dt (P d) (P b) (P c)) :
    Ap n P (Fl E a b c d) d b c := by
  have := fl_ap G k h (by have := dt_120 (P d) (P b) (P c); omega) (by have := dt_201 (P a) (P d) (P c); omega)
  exact ap_rot (ap_rot (ap_ext (fl_sw E a b c d) this))
/-- the eight cells that a flip changes -/
def Eight (a b c d u v : Nat) : Prop :=
  (u = a ∧ v = b) ∨ (u = b ∧ v = a) ∨ (u = a ∧ v = d) ∨ (u = d ∧ v = c) ∨ (u = c ∧ v = a) ∨ (u = d ∧ v = b) ∨ (u = b ∧ v = c) ∨ (u = c ∧ v = d)
theorem fl_old {n : Nat} {P : Nat → Int × Int × Int} {E : Nat → Nat → Prop} (G : Ge n P E) {a b c d : Nat}
    (h : Ap n P E a b c) (k : Ap n P E b a d) (q1 : 0 < dt (P a) (P d) (P c)) (q2 : 0 < dt (P d) (P b) (P c))
    {u v w : Nat} (ne : ¬ Eight a b c d u v) : Ap n P (Fl E a b c d) u v w ↔ Ap n P E u v w := by
  have G' := fl_ge G h k q1 q2
  have A1 := fl_ap G h k q1 q2
  have A2 := fl_ap2 G h k q1 q2
  constructor
  · intro x
    have x0 := x
    obtain ⟨x1, x2, x3, x4, x5⟩ := x
    rcases x1 with ⟨x1, _⟩ | ⟨e1, e2⟩ | ⟨e1, e2⟩
    · rcases x2 with ⟨x2, _⟩ | ⟨e1, e2⟩ | ⟨e1, e2⟩
      · rcases x3 with ⟨x3, _⟩ | ⟨e1, e2⟩ | ⟨e1, e2⟩
        · exact ⟨x1, x2, x3, x4, x5⟩
        · subst e1; subst e2
          have := ap_un G' (ap_rot (ap_rot x0)) (ap_rot (ap_rot A2))
          exact (ne (by subst this; simp [Eight])).elim
        · subst e1; subst e2
          have := ap_un G' (ap_rot (ap_rot x0)) (ap_rot A1)
          exact (ne (by subst this; simp [Eight])).elim
      · subst e1; subst e2
        have := ap_un G' (ap_rot x0) (ap_rot (ap_rot A2))
        exact (ne (by subst this; simp [Eight])).elim
      · subst e1; subst e2
        have := ap_un G' (ap_rot x0) (ap_rot A1)
        exact (ne (by subst this; simp [Eight])).elim
    · exact (ne (by simp [Eight, e1, e2])).elim
    · exact (ne (by simp [Eight, e1, e2])).elim
  · intro x
    have x0 := x
    obtain ⟨x1, x2, x3, x4, x5⟩ := x
    refine ⟨Or.inl ⟨x1, ?_, ?_⟩, Or.inl ⟨x2, ?_, ?_⟩, Or.inl ⟨x3, ?_, ?_⟩, x4, x5⟩
    · intro z; exact ne (Or.inl z)
    · intro z; exact ne (Or.inr (Or.inl z))
    · rintro ⟨e1, e2⟩
      subst e1; subst e2
      have := ap_un G (ap_rot x0) h
      exact ne (by subst this; simp [Eight])
    · rintro ⟨e1, e2⟩
      subst e1; subst e2
      have := ap_un G (ap_rot x0) k
      exact ne (by subst this; simp [Eight])
    · rintro ⟨e1, e2⟩
      subst e1; subst e2
      have := ap_un G (ap_rot (ap_rot x0)) h
      exact ne (by subst this; simp [Eight])
    · rintro ⟨e1, e2⟩
      subst e1; subst e2
      have := ap_un G (ap_rot (ap_rot x0)) k
      exact ne (by subst this; simp [Eight])
theorem fl_th {n : Nat} {P : Nat → Int × Int × Int} {E : Nat → Nat → Prop} (G : Ge n P E) (T : Th n P E) {a b c d : Nat}
    (h : Ap n P E a b c) (k : Ap n P E b a d) (q1 : 0 < dt (P a) (P d) (P c)) (q2 : 0 < dt (P d) (P b) (P c)) :
    Th n P (Fl E a b c d) := by
  have A1 := fl_ap G h k q1 q2
  have A2 := fl_ap2 G h k q1 q2
  intro x y q hxy hq hd
  by_cases e8 : Eight a b c d x y
  · rcases e8 with e | e | e | e | e | e | e | e
    · rcases hxy with ⟨_, n1, n2⟩ | z | z
      · exact (n1 e).elim
      · exact ((ap_lt G h).2.2.2.2.2 (by rw [← z.1, e.1])).elim
      · exact ((ap_lt G k).2.2.2.2.1 (by rw [← z.1, e.1])).elim
    · rcases hxy with ⟨_, n1, n2⟩ | z | z
      · exact (n2 e).elim
      · exact ((ap_lt G h).2.2.2.2.1 (by rw [← z.1, e.1])).elim
      · exact ((ap_lt G k).2.2.2.2.2 (by rw [← z.1, e.1])).elim
    · rw [e.1, e.2]; exact ⟨_, A1⟩
    · rw [e.1, e.2]; exact ⟨_, ap_rot A1⟩
    · rw [e.1, e.2]; exact ⟨_, ap_rot (ap_rot A1)⟩
    · rw [e.1, e.2]; exact ⟨_, A2⟩
    · rw [e.1, e.2]; exact ⟨_, ap_rot A2⟩
    · rw [e.1, e.2]; exact ⟨_, ap_rot (ap_rot A2)⟩
  · rcases hxy with ⟨e, _⟩ | z | z
    · obtain ⟨w, hw⟩ := T x y q e hq hd
      exact ⟨w, (fl_old G h k q1 q2 e8).2 hw⟩
    · exact (e8 (by simp [Eight, z.1, z.2])).elim
    · exact (e8 (by simp [Eight, z.1, z.2])).elim
theorem fl_ct {n : Nat} {P : Nat → Int × Int × Int} {E : Nat → Nat → Prop} (G : Ge n P E) (C : Ct n E) {a b c d : Nat}
    (h : Ap n P E a b c) : Ct n (Fl E a b c d) := by
  obtain ⟨ha, hb, hc, ab, bc, ca⟩ := ap_lt G h
  have ge := G.2.2.1
  intro S s1 s2
  obtain ⟨u, v, e, su, sv⟩ := C S s1 s2
  by_cases e1 : u = a ∧ v = b
  · by_cases sc : S c
    · exact ⟨c, b, Or.inl ⟨(ge b c h.2.1).2.2.2, fun z => ca z.1, fun z => ab z.2.symm⟩, sc, e1.2 ▸ sv⟩
    · exact ⟨a, c, Or.inl ⟨(ge c a h.2.2.1).2.2.2, fun z => bc z.2.symm, fun z => ab z.1⟩, e1.1 ▸ su, sc⟩
  · by_cases e2 : u = b ∧ v = a
    · by_cases sc : S c
      · exact ⟨c, a, Or.inl ⟨h.2.2.1, fun z => ca z.1, fun z => bc z.1.symm⟩, sc, e2.2 ▸ sv⟩
      · exact ⟨b, c, Or.inl ⟨h.2.1, fun z => ab z.1.symm, fun z => ca z.2⟩, e2.1 ▸ su, sc⟩
    · exact ⟨u, v, Or.inl ⟨e, e1, e2⟩, su, sv⟩
theorem fl_gs {n : Nat} {P : Nat → Int × Int × Int} {E : Nat → Nat → Prop} (G : Gs n P E) {a b c d : Nat}
    (h : Ap n P E a b c) (k : Ap n P E b a d) (q1 : 0 < dt (P a) (P d) (P c)) (q2 : 0 < dt (P d) (P b) (P c)) :
    Gs n P (Fl E a b c d) :=
  ⟨fl_ge G.1 h k q1 q2, fl_th G.1 G.2.1 h k q1 q2, fl_ct G.1 G.2.2 h⟩

theorem sl_s1 (m r l k z : Int × Int × Int) (h0 : 0 < dt m r l) (h1 : 0 < dt m r z) (h2 : dt m l z < 0) (h3 : 0 < dt m k z) (h4 : 0 < dt m r k) (k1 : ¬ xc m k l r) (k2 : ¬ tin m r l k) : False := by
  have fh0 : 0 < dt m r l := by have q_e := dt_012 m r l; omega
  have fh1 : 0 < dt m r z := by have q_e := dt_012 m r z; omega
  have fh2 : dt m l z < 0 := by have q_e := dt_012 m l z; omega
  have fh3 : 0 < dt m k z := by have q_e := dt_012 m k z; omega
  have fh4 : 0 < dt m r k := by have q_e := dt_012 m r k; omega
  rcases Int.lt_trichotomy (dt m l k) 0 with s_mlk | s_mlk | s_mlk
  · rcases Int.lt_trichotomy (dt r l k) 0 with s_rlk | s_rlk | s_rlk
    · exact k1 ⟨(by have q_e := dt_021 m l k; omega), (by have q_e := dt_021 m r k; omega), (by have q_e := dt_120 m r l; omega), (by have q_e := dt_012 r l k; omega)⟩
    · exact k2 ⟨(by have q_e := dt_012 m r k; omega), (by have q_e := dt_012 r l k; omega), (by have q_e := dt_102 m l k; omega)⟩
    · exact k2 ⟨(by have q_e := dt_012 m r k; omega), (by have q_e := dt_012 r l k; omega), (by have q_e := dt_102 m l k; omega)⟩
  · have q_g := gp5 m r l k z
    have q_0 := m_PP fh0 fh3
    have q_1 := m_PN fh4 fh2
    have q_2 := m__Z (dt m r z) s_mlk
    omega
  · have q_g := gp5 m r l k z
    have q_0 := m_PP fh0 fh3
    have q_1 := m_PN fh4 fh2
    have q_2 := m_PP fh1 s_mlk
    omega
theorem sl_s2 (u m r l z : Int × Int × Int) (h0 : 0 < dt m r l) (h1 : 0 < dt m r z) (h2 : dt m l z < 0) (h3 : 0 < dt u m z) (h4 : dt u m r ≤ 0) (h5 : dt u m l ≤ 0) : False := by
  have fh0 : 0 < dt m r l := by have q_e := dt_012 m r l; omega
  have fh1 : 0 < dt m r z := by have q_e := dt_012 m r z; omega
  have fh2 : dt m l z < 0 := by have q_e := dt_012 m l z; omega
  have fh3 : 0 < dt u m z := by have q_e := dt_012 u m z; omega
  have fh4 : dt u m r ≤ 0 := by have q_e := dt_012 u m r; omega
  have fh5 : dt u m l ≤ 0 := by have q_e := dt_012 u m l; omega
  rcases (show dt u m r < 0 ∨ dt u m r = 0 by omega) with s_umr | s_umr
  · have q_g := gp5 m u r l z
    simp only [dt_102 u m r, dt_102 u m l, dt_102 u m z, Int.neg_mul, Int.mul_neg, Int.neg_neg] at q_g
    have q_0 := m_NN s_umr fh2
    have q_1 := m_np fh5 (Int.le_of_lt fh1)
    have q_2 := m_PP fh3 fh0
    omega
  · have q_g := gp5 m u r l z
    simp only [dt_102 u m r, dt_102 u m l, dt_102 u m z, Int.neg_mul, Int.mul_neg, Int.neg_neg] at q_g
    have q_0 := m_Z_ (dt m l z) s_umr
    have q_1 := m_np fh5 (Int.le_of_lt fh1)
    have q_2 := m_PP fh3 fh0
    omega
theorem sl_s3 (m v r l z : Int × Int × Int) (h0 : 0 < dt m r l) (h1 : 0 < dt m r z) (h2 : dt m l z < 0) (h3 : 0 < dt m v z) (h4 : dt m v r ≤ 0) (h5 : dt m v l ≤ 0) : False := by
  have fh0 : 0 < dt m r l := by have q_e := dt_012 m r l; omega
  have fh1 : 0 < dt m r z := by have q_e := dt_012 m r z; omega
  have fh2 : dt m l z < 0 := by have q_e := dt_012 m l z; omega
  have fh3 : 0 < dt m v z := by have q_e := dt_012 m v z; omega
  have fh4 : dt m v r ≤ 0 := by have q_e := dt_012 m v r; omega
  have fh5 : dt m v l ≤ 0 := by have q_e := dt_012 m v l; omega
  rcases (show dt m v r < 0 ∨ dt m v r = 0 by omega) with s_mvr | s_mvr
  · have q_g := gp5 m v r l z
    have q_0 := m_NN s_mvr fh2
    have q_1 := m_np fh5 (Int.le_of_lt fh1)
    have q_2 := m_PP fh3 fh0
    omega
  · have q_g := gp5 m v r l z
    have q_0 := m_Z_ (dt m l z) s_mvr
    have q_1 := m_np fh5 (Int.le_of_lt fh1)
    have q_2 := m_PP fh3 fh0
    omega
/-- the direction in which the key does not change, up or down -/
def zup (s : Nat) : Int × Int × Int := if s = 0 then (-1, 1000, 0) else (1, -1000, 0)
theorem up_key {a b : Int × Int × Int} (wa : a.2.2 = 1) (wb : b.2.2 = 1) : dt a b (zup 0) = gk b - gk a := by
  simp only [dt, zup, gk, wa, wb, if_pos]; omega
theorem dn_key {a b : Int × Int × Int} (wa : a.2.2 = 1) (wb : b.2.2 = 1) : dt a b (zup 1) = gk a - gk b := by
  simp only [dt, zup, gk, wa, wb, if_neg (show ¬ (1 = 0) by omega)]; omega
theorem s01 {s : Nat} (h : s < 2) : s = 0 ∨ s = 1 := by omega
theorem same_dir {n : Nat} {P : Nat → Int × Int × Int} {E : Nat → Nat → Prop} (G : Ge n P E) {m u v : Nat} (z : Int × Int × Int)
    (h1 : E m u) (h2 : E m v) (h : dt (P m) (P u) (P v) = 0) (k1 : 0 < dt (P m) (P u) z) (k2 : 0 < dt (P m) (P v) z) : u = v := by
  obtain ⟨gw, gd, ge, gc, gp⟩ := G
  obtain ⟨hm, hu, _, _⟩ := ge m u h1
  obtain ⟨_, hv, _, _⟩ := ge m v h2
  have wm := gw m hm
  have wu := gw u hu
  have wv := gw v hv
  have e1 := dt_021 (P m) (P u) (P v)
  rcases Int.lt_trichotomy (dt (P u) (P v) z) 0 with k | k | k
  · exfalso
    apply gp m u v h1 hv
    apply cov_p wm wu wv h k2
    have := dt_102 (P u) (P v) z
    omega
  · have e2 := dt_102 (P m) (P u) z
    have e3 := dt_120 (P m) (P u) (P v)
    have e4 := dt_102 (P m) (P u) (P v)
    have := eq_of3 wu wm wv z (by omega) (by omega) k
    exact (gd v u hv hu this).symm
  · exfalso
    apply gp m v u h2 hu
    exact cov_p wm wv wu (by omega) k1 k
/-- a triangle with middle point m on side s, its other corners r and l -/
def Ts (n : Nat) (P : Nat → Int × Int × Int) (E : Nat → Nat → Prop) (s m r l : Nat) : Prop :=
  Ap n P E m r l ∧ 0 < dt (P m) (P r) (zup s) ∧ dt (P m) (P l) (zup s) < 0
theorem ts_un {n : Nat} {P : Nat → Int × Int × Int} {E : Nat → Nat → Prop} (G : Ge n P E) {s m r l r' l' : Nat}
    (h : Ts n P E s m r l) (k : Ts n P E s m r' l') : r = r' ∧ l = l' := by
  have main : ∀ r l r' l', Ts n P E s m r l → Ts n P E s m r' l' → ¬ (0 < dt (P m) (P r) (P r')) := by
    intro r l r' l' h k q
    obtain ⟨h1, h2, h3⟩ := h
    obtain ⟨k1, k2, k3⟩ := k
    obtain ⟨_, hr', _, mr', _, _⟩ := ap_lt G k1
    obtain ⟨hm, hr, hl, mr, rl, lm⟩ := ap_lt G h1
    apply sl_s1 (P m) (P r) (P l) (P r') (zup s) h1.2.2.2.1 h2 h3 k2 q
      (G.2.2.2.1 m r' l r k1.1 (G.2.2.1 r l h1.2.1).2.2.2)
    apply h1.2.2.2.2 r' hr' (Ne.symm mr')
    · intro e; rw [e, dt_baa] at q; omega
    · intro e; rw [e] at k2; omega
  have rr : r = r' := by
    have a1 := main r l r' l' h k
    have a2 := main r' l' r l k h
    have e := dt_021 (P m) (P r) (P r')
    exact same_dir G (zup s) h.1.1 k.1.1 (by omega) h.2.1 k.2.1
  subst rr
  exact ⟨rfl, ap_un G h.1 k.1⟩
/-- the place that a directed edge takes -/
def SlotG (n : Nat) (P : Nat → Int × Int × Int) (E : Nat → Nat → Prop) (u v m s j : Nat) : Prop :=
  (j = 0 ∧ Ts n P E s m u v) ∨ (j = 1 ∧ u = m ∧ ∃ l, Ts n P E s m v l) ∨ (j = 2 ∧ v = m ∧ ∃ r, Ts n P E s m r u)
  ∨ (j = 0 ∧ s = 0 ∧ v = m ∧ gk (P u) < gk (P m) ∧ ∀ p, p < n → dt (P u) (P m) (P p) ≤ 0)
  ∨ (j = 0 ∧ s = 1 ∧ u = m ∧ gk (P v) < gk (P m) ∧ ∀ p, p < n → dt (P m) (P v) (P p) ≤ 0)
theorem slot_ex {n : Nat} {P : Nat → Int × Int × Int} {E : Nat → Nat → Prop} (G : Ge n P E) (B : Bx n P) (T : Th n P E) {u v : Nat} (h : E u v) :
    ∃ m s j, m < n ∧ s < 2 ∧ j < 3 ∧ SlotG n P E u v m s j := by
  obtain ⟨hu, hv, uv, hvu⟩ := G.2.2.1 u v h
  have wu := G.1 u hu
  have wv := G.1 v hv
  have ne : gk (P u) ≠ gk (P v) := fun e => uv (gk_inj G B hu hv e)
  by_cases hq : ∃ q, q < n ∧ 0 < dt (P u) (P v) (P q)
  · obtain ⟨q, hq, hd⟩ := hq
    obtain ⟨c, hc⟩ := T u v q h hq hd
    obtain ⟨_, _, hcn, _, vc, cu⟩ := ap_lt G hc
    have wc := G.1 c hcn
    have ne2 : gk (P v) ≠ gk (P c) := fun e => vc (gk_inj G B hv hcn e)
    have ne3 : gk (P c) ≠ gk (P u) := fun e => cu (gk_inj G B hcn hu e)
    have a1 := up_key wu wv
    have a2 := up_key wv wu
    have a3 := up_key wu wc
    have a4 := up_key wc wu
    have a5 := up_key wv wc
    have a6 := up_key wc wv
    have d1 := dn_key wu wv
    have d2 := dn_key wv wu
    have d3 := dn_key wu wc
    have d4 := dn_key wc wu
    have d5 := dn_key wv wc
    have d6 := dn_key wc wv
    have r1 := ap_rot hc
    have r2 := ap_rot r1
    by_cases x1 : gk (P u) < gk (P v) <;> by_cases x2 : gk (P v) < gk (P c) <;> by_cases x3 : gk (P c) < gk (P u)
    · omega
    · exact ⟨v, 0, 2, hv, by omega, by omega, Or.inr (Or.inr (Or.inl ⟨rfl, rfl, c, r1, by omega, by omega⟩))⟩
    · exact ⟨u, 0, 1, hu, by omega, by omega, Or.inr (Or.inl ⟨rfl, rfl, c, hc, by omega, by omega⟩)⟩
    · exact ⟨c, 1, 0, hcn, by omega, by omega, Or.inl ⟨rfl, r2, by omega, by omega⟩⟩
    · exact ⟨c, 0, 0, hcn, by omega, by omega, Or.inl ⟨rfl, r2, by omega, by omega⟩⟩
    · exact ⟨u, 1, 1, hu, by omega, by omega, Or.inr (Or.inl ⟨rfl, rfl, c, hc, by omega, by omega⟩)⟩
    · exact ⟨v, 1, 2, hv, by omega, by omega, Or.inr (Or.inr (Or.inl ⟨rfl, rfl, c, r1, by omega, by omega⟩))⟩
    · omega
  · have hq2 : ∀ p, p < n → dt (P u) (P v) (P p) ≤ 0 := by
      intro p hp
      rcases Int.lt_or_le 0 (dt (P u) (P v) (P p)) with z | z
      · exact (hq ⟨p, hp, z⟩).elim
      · exact z
    by_cases x : gk (P u) < gk (P v)
    · exact ⟨v, 0, 0, hv, by omega, by omega, Or.inr (Or.inr (Or.inr (Or.inl ⟨rfl, rfl, rfl, x, hq2⟩)))⟩
    · exact ⟨u, 1, 0, hu, by omega, by omega, Or.inr (Or.inr (Or.inr (Or.inr ⟨rfl, rfl, rfl, by omega, hq2⟩)))⟩
theorem hull_ts0 {n : Nat} {P : Nat → Int × Int × Int} {E : Nat → Nat → Prop} (G : Ge n P E) {u m r l : Nat} (hu : u < n)
    (h : Ts n P E 0 m r l) (k : gk (P u) < gk (P m)) (k2 : ∀ p, p < n → dt (P u) (P m) (P p) ≤ 0) : False := by
  obtain ⟨h1, h2, h3⟩ := h
  obtain ⟨hm, hr, hl, _⟩ := ap_lt G h1
  have := up_key (G.1 u hu) (G.1 m hm)
  exact sl_s2 (P u) (P m) (P r) (P l) (zup 0) h1.2.2.2.1 h2 h3 (by omega) (k2 r hr) (k2 l hl)
theorem hull_ts1 {n : Nat} {P : Nat → Int × Int × Int} {E : Nat → Nat → Prop} (G : Ge n P E) {v m r l : Nat} (hv : v < n)
    (h : Ts n P E 1 m r l) (k : gk (P v) < gk (P m)) (k2 : ∀ p, p < n → dt (P m) (P v) (P p) ≤ 0) : False := by
  obtain ⟨h1, h2, h3⟩ := h
  obtain ⟨hm, hr, hl, _⟩ := ap_lt G h1
  have := dn_key (G.1 m hm) (G.1 v hv)
  exact sl_s3 (P m) (P v) (P r) (P l) (zup 1) h1.2.2.2.1 h2 h3 (by omega) (k2 r hr) (k2 l hl)
theorem slot_un {n : Nat} {P : Nat → Int × Int × Int} {E : Nat → Nat → Prop} (G : Ge n P E) {u v x y m s j : Nat}
    (e1 : E u v) (e2 : E x y) (h : SlotG n P E u v m s j) (k : SlotG n P E x y m s j) : u = x ∧ v = y := by
  have ge := G.2.2.1
  obtain ⟨hu, hv, _, evu⟩ := ge u v e1
  obtain ⟨hx, hy, _, eyx⟩ := ge x y e2
  rcases h with ⟨a1, a2⟩ | ⟨a1, a2, a3, a4⟩ | ⟨a1, a2, a3, a4⟩ | ⟨a1, a2, a3, a4, a5⟩ | ⟨a1, a2, a3, a4, a5⟩ <;>
    rcases k with ⟨b1, b2⟩ | ⟨b1, b2, b3, b4⟩ | ⟨b1, b2, b3, b4⟩ | ⟨b1, b2, b3, b4, b5⟩ | ⟨b1, b2, b3, b4, b5⟩ <;> (try omega)
  · exact ts_un G a2 b2
  · subst b2; exact (hull_ts0 G hx a2 b4 b5).elim
  · subst b2; exact (hull_ts1 G hy a2 b4 b5).elim
  · have := (ts_un G a4 b4).1
    exact ⟨by rw [a2, b2], this⟩
  · have := (ts_un G a4 b4).2
    exact ⟨this, by rw [a2, b2]⟩
  · subst a2; exact (hull_ts0 G hu b2 a4 a5).elim
  · -- two edges into m from the left, nothing above them
    subst a3
    have e3 : dt (P v) (P u) (P x) = 0 := by
      have c1 := a5 x hx
      have c2 := b5 u hu
      have f1 := dt_102 (P v) (P u) (P x)
      have f2 := dt_120 (P x) (P v) (P u)
      have f3 := dt_021 (P v) (P x) (P u)
      have f4 := dt_102 (P u) (P v) (P x)
      omega
    have w := G.1
    have g1 := dn_key (w v hv) (w u hu)
    have g2 := dn_key (w v hv) (w x hx)
    have := same_dir G (zup 1) evu (b3 ▸ eyx) e3 (by omega) (by omega)
    exact ⟨this, b3.symm⟩
  · subst a2; exact (hull_ts1 G hv b2 a4 a5).elim
  · subst a3
    have e3 : dt (P u) (P v) (P y) = 0 := by
      have c1 := a5 y hy
      have c2 := b5 v hv
      have f1 := dt_021 (P u) (P v) (P y)
      omega
    have w := G.1
    have g1 := dn_key (w u hu) (w v hv)
    have g2 := dn_key (w u hu) (w y hy)
    have := same_dir G (zup 1) e1 (b3 ▸ e2) e3 (by omega) (by omega)
    exact ⟨b3.symm, this⟩

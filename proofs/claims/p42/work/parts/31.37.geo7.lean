def pwb (i : Nat) : Int := (100000 : Int) ^ i
theorem pwb_s (i : Nat) : pwb (i + 1) = 100000 * pwb i := by
  simp only [pwb, Int.pow_succ]; omega
theorem pwb_pos (i : Nat) : 1 ≤ pwb i := by
  induction i with
  | zero => simp [pwb]
  | succ i ih => rw [pwb_s]; omega
theorem pwb_lt {i j : Nat} (h : i < j) : 100000 * pwb i ≤ pwb j := by
  induction j with
  | zero => omega
  | succ j ih =>
    rw [pwb_s]
    by_cases e : i = j
    · rw [e]; omega
    · have := ih (by omega)
      have := pwb_pos i
      have := pwb_pos j
      omega
/-- the height of a point: the square, and the number for ties -/
def Hh (P : Nat → Int × Int × Int) (i : Nat) : Int := (100000 * pwb 16) * qh (P i) + pwb i
def Dh (P : Nat → Int × Int × Int) (a b c d : Nat) : Int := De (Hh P a) (Hh P b) (Hh P c) (Hh P d) (P a) (P b) (P c) (P d)
theorem dh_split (P : Nat → Int × Int × Int) (a b c d : Nat) :
    Dh P a b c d = (100000 * pwb 16) * Dq (P a) (P b) (P c) (P d) +
      (pwb a * dt (P b) (P c) (P d) - pwb b * dt (P a) (P c) (P d) + pwb c * dt (P a) (P b) (P d) - pwb d * dt (P a) (P b) (P c)) := by
  simp only [Dh, Dq, De, Hh]; grind
theorem dt_bd {a b c : Int × Int × Int} (wa : a.2.2 = 1) (wb : b.2.2 = 1) (wc : c.2.2 = 1)
    (ha : 0 ≤ a.1 ∧ a.1 ≤ 100 ∧ 0 ≤ a.2.1 ∧ a.2.1 ≤ 100) (hb : 0 ≤ b.1 ∧ b.1 ≤ 100 ∧ 0 ≤ b.2.1 ∧ b.2.1 ≤ 100)
    (hc : 0 ≤ c.1 ∧ c.1 ≤ 100 ∧ 0 ≤ c.2.1 ∧ c.2.1 ≤ 100) : -20000 ≤ dt a b c ∧ dt a b c ≤ 20000 := by
  have e : dt a b c = (b.1 - a.1) * (c.2.1 - a.2.1) - (b.2.1 - a.2.1) * (c.1 - a.1) := by
    simp only [dt, wa, wb, wc]; grind
  have bd : ∀ x y : Int, -100 ≤ x → x ≤ 100 → -100 ≤ y → y ≤ 100 → -10000 ≤ x * y ∧ x * y ≤ 10000 := by
    intro x y h1 h2 h3 h4
    have p1 := m_pp (show 0 ≤ 100 - x by omega) (show 0 ≤ 100 - y by omega)
    have p2 := m_pp (show 0 ≤ 100 + x by omega) (show 0 ≤ 100 + y by omega)
    have p3 := m_pp (show 0 ≤ 100 - x by omega) (show 0 ≤ 100 + y by omega)
    have p4 := m_pp (show 0 ≤ 100 + x by omega) (show 0 ≤ 100 - y by omega)
    constructor
    · have : (100 - x) * (100 - y) + (100 + x) * (100 + y) = 20000 + 2 * (x * y) := by grind
      omega
    · have : (100 - x) * (100 + y) + (100 + x) * (100 - y) = 20000 - 2 * (x * y) := by grind
      omega
  have b1 := bd (b.1 - a.1) (c.2.1 - a.2.1) (by omega) (by omega) (by omega) (by omega)
  have b2 := bd (b.2.1 - a.2.1) (c.1 - a.1) (by omega) (by omega) (by omega) (by omega)
  omega
theorem mul_bd {x X y : Int} (h0 : 0 ≤ x) (h1 : x ≤ X) (h2 : -20000 ≤ y) (h3 : y ≤ 20000) : -20000 * X ≤ x * y ∧ x * y ≤ 20000 * X := by
  have p1 := m_pp h0 (show 0 ≤ 20000 - y by omega)
  have p2 := m_pp h0 (show 0 ≤ 20000 + y by omega)
  have e1 : x * (20000 - y) = 20000 * x - x * y := by grind
  have e2 : x * (20000 + y) = 20000 * x + x * y := by grind
  omega
theorem dh_pos {n : Nat} {P : Nat → Int × Int × Int} (hn : n ≤ 16) (W : ∀ i, i < n → (P i).2.2 = 1) (B : Bx n P) {a b c d : Nat}
    (ha : a < n) (hb : b < n) (hc : c < n) (hd : d < n) (h : 0 < Dq (P a) (P b) (P c) (P d)) : 0 < Dh P a b c d := by
  rw [dh_split]
  have b1 := dt_bd (W b hb) (W c hc) (W d hd) (B b hb) (B c hc) (B d hd)
  have b2 := dt_bd (W a ha) (W c hc) (W d hd) (B a ha) (B c hc) (B d hd)
  have b3 := dt_bd (W a ha) (W b hb) (W d hd) (B a ha) (B b hb) (B d hd)
  have b4 := dt_bd (W a ha) (W b hb) (W c hc) (B a ha) (B b hb) (B c hc)
  have pa := pwb_pos a
  have pb := pwb_pos b
  have pc := pwb_pos c
  have pd := pwb_pos d
  have la := pwb_lt (show a < 16 by omega)
  have lb := pwb_lt (show b < 16 by omega)
  have lc := pwb_lt (show c < 16 by omega)
  have ld := pwb_lt (show d < 16 by omega)
  have m2 := mul_bd (x := pwb b) (X := pwb 16) (by omega) (by omega) b2.1 b2.2
  have m3 := mul_bd (x := pwb c) (X := pwb 16) (by omega) (by omega) b3.1 b3.2
  have m4 := mul_bd (x := pwb d) (X := pwb 16) (by omega) (by omega) b4.1 b4.2
  have m5 := mul_bd (x := pwb a) (X := pwb 16) (by omega) (by omega) b1.1 b1.2
  have p16 := pwb_pos 16
  have q := m_pp (show 0 ≤ 100000 * pwb 16 by omega) (show 0 ≤ Dq (P a) (P b) (P c) (P d) - 1 by omega)
  have e : 100000 * pwb 16 * (Dq (P a) (P b) (P c) (P d) - 1) = 100000 * pwb 16 * Dq (P a) (P b) (P c) (P d) - 100000 * pwb 16 := by grind
  omega
theorem dh_tie {n : Nat} {P : Nat → Int × Int × Int} (W : ∀ i, i < n → (P i).2.2 = 1) (B : Bx n P) {a b c d : Nat}
    (ha : a < n) (hb : b < n) (hc : c < n) (hd : d < n) (h : Dq (P a) (P b) (P c) (P d) = 0)
    (hm : (c < a ∧ d < a) ∨ (c < b ∧ d < b)) (q1 : 0 < dt (P a) (P d) (P c)) (q2 : 0 < dt (P d) (P b) (P c)) : 0 < Dh P a b c d := by
  rw [dh_split, h, Int.mul_zero, Int.zero_add]
  have b3 := dt_bd (W a ha) (W b hb) (W d hd) (B a ha) (B b hb) (B d hd)
  have b4 := dt_bd (W a ha) (W b hb) (W c hc) (B a ha) (B b hb) (B c hc)
  have pa := pwb_pos a
  have pb := pwb_pos b
  have pc := pwb_pos c
  have pd := pwb_pos d
  have e1 := dt_120 (P d) (P b) (P c)
  have e2 := dt_021 (P a) (P d) (P c)
  have k1 := m_pp (show 0 ≤ pwb a by omega) (show 0 ≤ dt (P b) (P c) (P d) - 1 by omega)
  have k2 := m_pp (show 0 ≤ pwb b by omega) (show 0 ≤ - dt (P a) (P c) (P d) - 1 by omega)
  have f1 : pwb a * (dt (P b) (P c) (P d) - 1) = pwb a * dt (P b) (P c) (P d) - pwb a := by grind
  have f2 : pwb b * (- dt (P a) (P c) (P d) - 1) = - (pwb b * dt (P a) (P c) (P d)) - pwb b := by grind
  have m3 := mul_bd (x := pwb c) (X := pwb c) (by omega) (by omega) b3.1 b3.2
  have m4 := mul_bd (x := pwb d) (X := pwb d) (by omega) (by omega) b4.1 b4.2
  rcases hm with ⟨l1, l2⟩ | ⟨l1, l2⟩
  · have := pwb_lt l1
    have := pwb_lt l2
    omega
  · have := pwb_lt l1
    have := pwb_lt l2
    omega
noncomputable def ind (p : Prop) : Nat := @ite Nat p (Classical.propDecidable p) 1 0
theorem ind_t {p : Prop} (h : p) : ind p = 1 := by simp only [ind, if_pos h]
theorem ind_f {p : Prop} (h : ¬ p) : ind p = 0 := by simp only [ind, if_neg h]
theorem ind_c (p : Prop) : (p ∧ ind p = 1) ∨ (¬ p ∧ ind p = 0) := by
  by_cases h : p
  · exact Or.inl ⟨h, ind_t h⟩
  · exact Or.inr ⟨h, ind_f h⟩
theorem ind_iff {p q : Prop} (h : p ↔ q) : ind p = ind q := by
  rcases ind_c p with ⟨h1, e1⟩ | ⟨h1, e1⟩
  · rw [e1, ind_t (h.1 h1)]
  · rw [e1, ind_f (fun x => h1 (h.2 x))]
theorem cnt1 {n : Nat} {P : Nat → Int × Int × Int} (hn : n ≤ 16) (W : ∀ i, i < n → (P i).2.2 = 1) (B : Bx n P) {a b c d p : Nat}
    (ha : a < n) (hb : b < n) (hc : c < n) (hd : d < n) (hp : p < n)
    (h1 : 0 < dt (P a) (P b) (P c)) (h2 : 0 < dt (P b) (P a) (P d)) (h3 : 0 < dt (P a) (P d) (P c)) (h4 : 0 < dt (P d) (P b) (P c))
    (hE : 0 < Dh P a b c d) (y1 : 0 < Dh P a d c p) (x1 : Dh P a b c p ≤ 0) :
    ¬ (Dh P b a d p ≤ 0) ∧ ¬ (0 < Dh P d b c p) := by
  have r1 := de_r1 (Hh P a) (Hh P b) (Hh P c) (Hh P d) (Hh P p) (P a) (P b) (P c) (P d) (P p)
  have r3 := de_r3 (Hh P a) (Hh P b) (Hh P c) (Hh P d) (Hh P p) (P a) (P b) (P c) (P d) (P p)
  have r2 := de_r3 (Hh P b) (Hh P a) (Hh P d) (Hh P c) (Hh P p) (P b) (P a) (P d) (P c) (P p)
  rw [de_sw (Hh P a) (Hh P b) (Hh P c) (Hh P d) (P a) (P b) (P c) (P d)] at r2
  rw [← de_rot (Hh P c) (Hh P a) (Hh P d) (Hh P p) (P c) (P a) (P d) (P p)] at r2
  have wa := W a ha
  have wb := W b hb
  have wc := W c hc
  have wd := W d hd
  have wp := W p hp
  simp only [Dh] at hE y1 x1
  have apc : dt (P a) (P p) (P c) < 0 := by
    have p1 := m_PP h1 y1
    have p2 := m_pn (Int.le_of_lt h3) x1
    exact neg_of hE (by omega)
  have e0 := dt_021 (P a) (P p) (P c)
  have e1 := dt_120 (P a) (P c) (P p)
  have n1 := ne_of_dt (a := P a) (b := P d) (c := P c) (by omega)
  have n2 := n1.2.1
  constructor
  · intro x2
    simp only [Dh] at x2
    have pad : dt (P p) (P a) (P d) < 0 := by
      have e4 := dt_201 (P a) (P d) (P c)
      have p1 := m_PP h2 y1
      have p2 := m_pn (show 0 ≤ dt (P c) (P a) (P d) by omega) x2
      exact neg_of hE (by omega)
    have f1 := dt_021 (P p) (P a) (P d)
    have f2 := dt_120 (P a) (P d) (P c)
    have k := dh_pos hn W B hp hd hc ha (in_pos wp wd wc wa (by omega) (by omega) (by omega) (Ne.symm n1.1))
    simp only [Dh] at k
    have k2 := de_14 (Hh P a) (Hh P d) (Hh P c) (Hh P p) (P a) (P d) (P c) (P p)
    omega
  · intro y2
    simp only [Dh] at y2
    have pbc : dt (P p) (P b) (P c) < 0 := by
      have p1 := m_PP h1 y2
      have p2 := m_pn (Int.le_of_lt h4) x1
      exact neg_of hE (by omega)
    rcases Int.le_total (dt (P d) (P c) (P p)) 0 with z | z
    · have f1 := dt_021 (P d) (P c) (P p)
      have f2 := dt_102 (P a) (P p) (P c)
      have k := dh_pos hn W B ha hd hp hc (in_pos wa wd wp wc (by omega) (by omega) (by omega) n2)
      simp only [Dh] at k
      have k2 := de_34 (Hh P a) (Hh P d) (Hh P c) (Hh P p) (P a) (P d) (P c) (P p)
      omega
    · have f1 := dt_201 (P d) (P c) (P p)
      have f2 := dt_102 (P p) (P b) (P c)
      have k := dh_pos hn W B hp hd hb hc (in_pos wp wd wb wc (by omega) (by omega) (by omega) n2)
      simp only [Dh] at k
      have k2 := de_34 (Hh P d) (Hh P b) (Hh P c) (Hh P p) (P d) (P b) (P c) (P p)
      have k3 := de_rot (Hh P p) (Hh P d) (Hh P b) (Hh P c) (P p) (P d) (P b) (P c)
      omega
theorem cnt2 {n : Nat} {P : Nat → Int × Int × Int} (hn : n ≤ 16) (W : ∀ i, i < n → (P i).2.2 = 1) (B : Bx n P) {a b c d p : Nat}
    (ha : a < n) (hb : b < n) (hc : c < n) (hd : d < n) (hp : p < n)
    (h1 : 0 < dt (P a) (P b) (P c)) (h2 : 0 < dt (P b) (P a) (P d)) (h3 : 0 < dt (P a) (P d) (P c)) (h4 : 0 < dt (P d) (P b) (P c))
    (hE : 0 < Dh P a b c d) :
    ind (0 < Dh P a d c p) + ind (0 < Dh P d b c p) ≤ ind (0 < Dh P a b c p) + ind (0 < Dh P b a d p) := by
  have sw : Dh P b a d c = Dh P a b c d := de_sw _ _ _ _ _ _ _ _
  have r1 : Dh P b c d p = Dh P d b c p := de_rot _ _ _ _ _ _ _ _
  have r2 : Dh P c a d p = Dh P a d c p := by
    have := de_rot (Hh P c) (Hh P a) (Hh P d) (Hh P p) (P c) (P a) (P d) (P p)
    simp only [Dh]; omega
  have A1 := fun y x => cnt1 hn W B ha hb hc hd hp h1 h2 h3 h4 hE y x
  have A2 := fun y x => cnt1 (a := b) (b := a) (c := d) (d := c) hn W B hb ha hd hc hp h2 h1
    (by have := dt_120 (P d) (P b) (P c); omega) (by have := dt_201 (P a) (P d) (P c); omega) (by omega) y x
  rw [r1, r2] at A2
  have A3 : 0 < Dh P d b c p → Dh P a b c p ≤ 0 → ¬ (Dh P b a d p ≤ 0) := by
    intro y x z
    have := (A2 y z).1
    omega
  rcases ind_c (0 < Dh P a d c p) with ⟨y1, e1⟩ | ⟨y1, e1⟩ <;> rcases ind_c (0 < Dh P d b c p) with ⟨y2, e2⟩ | ⟨y2, e2⟩ <;>
    rcases ind_c (0 < Dh P a b c p) with ⟨x1, e3⟩ | ⟨x1, e3⟩ <;> rcases ind_c (0 < Dh P b a d p) with ⟨x2, e4⟩ | ⟨x2, e4⟩ <;>
    rw [e1, e2, e3, e4] <;> first
    | omega
    | exact absurd y2 (A1 y1 (by omega)).2
    | exact absurd y1 (A2 y2 (by omega)).2
    | exact absurd (show Dh P b a d p ≤ 0 by omega) (A1 y1 (by omega)).1
    | exact absurd (show Dh P b a d p ≤ 0 by omega) (A3 y2 (by omega))
/-- sums -/
def sumr : Nat → (Nat → Nat) → Nat
  | 0, _ => 0
  | k + 1, f => sumr k f + f k
theorem sumr_le (N : Nat) (f g : Nat → Nat) (h : ∀ i, i < N → f i ≤ g i) : sumr N f ≤ sumr N g := by
  induction N with
  | zero => exact Nat.le_refl _
  | succ N ih =>
    have := ih (fun i hi => h i (by omega))
    have := h N (by omega)
    simp only [sumr]; omega
theorem sumr_ext (N : Nat) (f g : Nat → Nat) (h : ∀ i, i < N → f i = g i) : sumr N f = sumr N g := by
  induction N with
  | zero => rfl
  | succ N ih =>
    have := ih (fun i hi => h i (by omega))
    have := h N (by omega)
    simp only [sumr]; omega
theorem sumr_add (N : Nat) (f g : Nat → Nat) : sumr N (fun i => f i + g i) = sumr N f + sumr N g := by
  induction N with
  | zero => rfl
  | succ N ih => simp only [sumr]; omega
theorem sumr_one (N j : Nat) (h : j < N) (x : Nat) : sumr N (fun i => if i = j then x else 0) = x := by
  have z : ∀ M, M ≤ j → sumr M (fun i => if i = j then x else 0) = 0 := by
    intro M hM
    induction M with
    | zero => rfl
    | succ M ih =>
      have := ih (by omega)
      simp only [sumr, if_neg (show ¬ M = j by omega)]
      omega
  induction N with
  | zero => omega
  | succ N ih =>
    by_cases e : N = j
    · subst e
      simp only [sumr, if_pos]
      have := z N (by omega)
      omega
    · have := ih (by omega)
      simp only [sumr, if_neg e]
      omega
theorem sumr_const (N x : Nat) : sumr N (fun _ => x) = N * x := by
  induction N with
  | zero => simp [sumr]
  | succ N ih => simp only [sumr, ih, Nat.succ_mul]
/-- sums of functions that differ at the places of J alone -/
theorem sumr_J (N : Nat) (f g : Nat → Nat) : ∀ J : List Nat, J.Nodup → (∀ j, j ∈ J → j < N) → (∀ i, i < N → i ∉ J → f i = g i) →
    sumr N g + (J.map f).sum = sumr N f + (J.map g).sum := by
  intro J
  induction J generalizing f with
  | nil =>
    intro _ _ h
    rw [sumr_ext N g f (fun i hi => (h i hi (by simp)).symm)]
    rfl
  | cons j J ih =>
    intro nd lt h
    have nd := List.nodup_cons.1 nd
    have hj := lt j List.mem_cons_self
    have := ih (fun i => if i = j then g j else f i) nd.2 (fun i hi => lt i (List.mem_cons_of_mem _ hi)) (fun i hi hn => by
      by_cases e : i = j
      · subst e; simp
      · simp only [if_neg e]
        exact h i hi (by simp [e, hn]))
    have m : J.map (fun i => if i = j then g j else f i) = J.map f := by
      apply List.map_congr_left
      intro x hx
      have : x ≠ j := fun e => nd.1 (e ▸ hx)
      simp [this]
    rw [m] at this
    have s1 : sumr N (fun i => if i = j then g j else f i) + f j = sumr N f + g j := by
      have a1 := sumr_add N (fun i => if i = j then g j else f i) (fun i => if i = j then f j else 0)
      have a2 := sumr_add N f (fun i => if i = j then g j else 0)
      rw [sumr_one N j hj] at a1 a2
      rw [← a1, ← a2]
      apply sumr_ext
      intro i _
      by_cases e : i = j
      · subst e; simp; omega
      · simp [e]
    simp only [List.map_cons, List.sum_cons]
    omega

theorem pig {A : Type} (R : A → Nat → Prop) (N : Nat) (L : List A) (nd : L.Nodup) (ex : ∀ x, x ∈ L → ∃ k, k < N ∧ R x k)
    (inj : ∀ x y k, x ∈ L → y ∈ L → R x k → R y k → x = y) :
    ∃ K : List Nat, K.length = L.length ∧ K.Nodup ∧ ∀ k, k ∈ K → k < N ∧ ∃ x, x ∈ L ∧ R x k := by
  induction L with
  | nil => exact ⟨[], rfl, List.nodup_nil, fun k h => by cases h⟩
  | cons a L ih =>
    have nd := List.nodup_cons.1 nd
    obtain ⟨K, h1, h2, h3⟩ := ih nd.2 (fun x hx => ex x (List.mem_cons_of_mem _ hx))
      (fun x y k hx hy => inj x y k (List.mem_cons_of_mem _ hx) (List.mem_cons_of_mem _ hy))
    obtain ⟨k, hk, rk⟩ := ex a List.mem_cons_self
    refine ⟨k :: K, by simp [h1], List.nodup_cons.2 ⟨?_, h2⟩, ?_⟩
    · intro hm
      obtain ⟨_, x, hx, rx⟩ := h3 k hm
      have := inj a x k List.mem_cons_self (List.mem_cons_of_mem _ hx) rk rx
      exact nd.1 (this ▸ hx)
    · intro i hi
      rcases List.mem_cons.1 hi with e | hi
      · rw [e]; exact ⟨hk, a, List.mem_cons_self, rk⟩
      · obtain ⟨q1, x, q2, q3⟩ := h3 i hi
        exact ⟨q1, x, List.mem_cons_of_mem _ q2, q3⟩
theorem pig_len (N : Nat) (K X : List Nat) (h1 : K.Nodup) (h2 : X.Nodup) (h3 : ∀ a, a ∈ K → ∀ b, b ∈ X → a ≠ b)
    (h4 : ∀ k, k ∈ K → k < N) (h5 : ∀ k, k ∈ X → k < N) : K.length + X.length ≤ N := by
  have := List.Nodup.length_le_of_subset (l₁ := K ++ X) (l₂ := List.range N) (List.nodup_append.2 ⟨h1, h2, h3⟩) (by
    intro k hk
    rcases List.mem_append.1 hk with h | h
    · exact List.mem_range.2 (h4 k h)
    · exact List.mem_range.2 (h5 k h))
  rw [List.length_append, List.length_range] at this
  exact this
theorem ts_ex {n : Nat} {P : Nat → Int × Int × Int} {E : Nat → Nat → Prop} (G : Ge n P E) (B : Bx n P) {u v c : Nat} (hc : Ap n P E u v c) :
    ∃ m s r l, s < 2 ∧ Ts n P E s m r l ∧ ((m = u ∧ r = v ∧ l = c) ∨ (m = v ∧ r = c ∧ l = u) ∨ (m = c ∧ r = u ∧ l = v)) := by
  obtain ⟨hu, hv, hcn, uv, vc, cu⟩ := ap_lt G hc
  have wu := G.1 u hu
  have wv := G.1 v hv
  have ne : gk (P u) ≠ gk (P v) := fun e => uv (gk_inj G B hu hv e)
  have wc := G.1 c hcn
  have ne2 : gk (P v) ≠ gk (P c) := fun e => vc (gk_inj G B hv hcn e)
  have ne3 : gk (P c) ≠ gk (P u) := fun e => cu (gk_inj G B hcn hu e)
  have a1 := up_key wu wv
  have a2 := up_key wv wu
  have a3 := up_key wu wc
  have a4 := up_key wc wu
  have a5 := up_key wv wc
  have a6 := up_key wc wv
  have d1 := dn_key wu wv
  have d2 := dn_key wv wu
  have d3 := dn_key wu wc
  have d4 := dn_key wc wu
  have d5 := dn_key wv wc
  have d6 := dn_key wc wv
  have r1 := ap_rot hc
  have r2 := ap_rot r1
  by_cases x1 : gk (P u) < gk (P v) <;> by_cases x2 : gk (P v) < gk (P c) <;> by_cases x3 : gk (P c) < gk (P u)
  · omega
  · exact ⟨v, 0, c, u, by omega, ⟨r1, by omega, by omega⟩, by simp⟩
  · exact ⟨u, 0, v, c, by omega, ⟨hc, by omega, by omega⟩, by simp⟩
  · exact ⟨c, 1, u, v, by omega, ⟨r2, by omega, by omega⟩, by simp⟩
  · exact ⟨c, 0, u, v, by omega, ⟨r2, by omega, by omega⟩, by simp⟩
  · exact ⟨u, 1, v, c, by omega, ⟨hc, by omega, by omega⟩, by simp⟩
  · exact ⟨v, 1, c, u, by omega, ⟨r1, by omega, by omega⟩, by simp⟩
  · omega
/-- a triangle's middle point is neither first nor last -/
theorem ts_bd {n : Nat} {P : Nat → Int × Int × Int} {E : Nat → Nat → Prop} (G : Ge n P E) {s m r l : Nat} (hs : s < 2) (h : Ts n P E s m r l) :
    (∃ x, x < n ∧ gk (P x) < gk (P m)) ∧ (∃ x, x < n ∧ gk (P m) < gk (P x)) := by
  obtain ⟨h1, h2, h3⟩ := h
  obtain ⟨hm, hr, hl, _⟩ := ap_lt G h1
  have wm := G.1 m hm
  have wr := G.1 r hr
  have wl := G.1 l hl
  have a1 := up_key wm wr
  have a2 := up_key wm wl
  have d1 := dn_key wm wr
  have d2 := dn_key wm wl
  rcases s01 hs with e | e
  · subst e
    exact ⟨⟨l, hl, by omega⟩, ⟨r, hr, by omega⟩⟩
  · subst e
    exact ⟨⟨r, hr, by omega⟩, ⟨l, hl, by omega⟩⟩
theorem far_no {n : Nat} {P : Nat → Int × Int × Int} {E : Nat → Nat → Prop} (G : Ge n P E) {A Z p r l : Nat} (hA : A < n) (hZ : Z < n)
    (hk : gk (P A) < gk (P Z)) (h : Ts n P E 0 p r l) (far : ∀ x, x < n → dt (P A) (P Z) (P x) ≤ dt (P A) (P Z) (P p)) : False := by
  obtain ⟨h1, h2, h3⟩ := h
  obtain ⟨hp, hr, hl, _⟩ := ap_lt G h1
  have wp := G.1 p hp
  have wr := G.1 r hr
  have wl := G.1 l hl
  have wA := G.1 A hA
  have wZ := G.1 Z hZ
  have e : ∀ y : Int × Int × Int, y.2.2 = 1 → dt (P p) ((P Z).1 - (P A).1, (P Z).2.1 - (P A).2.1, 0) y = dt (P A) (P Z) y - dt (P A) (P Z) (P p) := by
    intro y wy
    simp only [dt, wp, wA, wZ, wy]; grind
  have e2 : dt (P p) ((P Z).1 - (P A).1, (P Z).2.1 - (P A).2.1, 0) (zup 0) = gk (P Z) - gk (P A) := by
    simp only [dt, zup, gk, wp, if_pos]; grind
  have f1 := far r hr
  have f2 := far l hl
  exact sl_s3 (P p) _ (P r) (P l) (zup 0) h1.2.2.2.1 h2 h3 (by rw [e2]; omega) (by rw [e _ wr]; omega) (by rw [e _ wl]; omega)
theorem far_no1 {n : Nat} {P : Nat → Int × Int × Int} {E : Nat → Nat → Prop} (G : Ge n P E) {A Z p r l : Nat} (hA : A < n) (hZ : Z < n)
    (hk : gk (P A) < gk (P Z)) (h : Ts n P E 1 p r l) (far : ∀ x, x < n → dt (P A) (P Z) (P p) ≤ dt (P A) (P Z) (P x)) : False := by
  obtain ⟨h1, h2, h3⟩ := h
  obtain ⟨hp, hr, hl, _⟩ := ap_lt G h1
  have wp := G.1 p hp
  have wr := G.1 r hr
  have wl := G.1 l hl
  have wA := G.1 A hA
  have wZ := G.1 Z hZ
  have e : ∀ y : Int × Int × Int, y.2.2 = 1 → dt (P p) ((P A).1 - (P Z).1, (P A).2.1 - (P Z).2.1, 0) y = dt (P A) (P Z) (P p) - dt (P A) (P Z) y := by
    intro y wy
    simp only [dt, wp, wA, wZ, wy]; grind
  have e2 : dt (P p) ((P A).1 - (P Z).1, (P A).2.1 - (P Z).2.1, 0) (zup 1) = gk (P Z) - gk (P A) := by
    simp only [dt, zup, gk, wp, if_neg (show ¬ (1 = 0) by omega)]; grind
  have f1 := far r hr
  have f2 := far l hl
  exact sl_s3 (P p) _ (P r) (P l) (zup 1) h1.2.2.2.1 h2 h3 (by rw [e2]; omega) (by rw [e _ wr]; omega) (by rw [e _ wl]; omega)
theorem cram (A Z z a b c : Int × Int × Int) :
    dt A Z z * dt a b c = dt A Z a * dt z b c + dt A Z b * dt a z c + dt A Z c * dt a b z := by
  simp only [dt]; grind
/-- first, last, and the farthest point with its side -/
theorem ends_ex {n : Nat} {P : Nat → Int × Int × Int} {E : Nat → Nat → Prop} (G : Ge n P E) (B : Bx n P)
    (h : ∃ a b c, a < n ∧ b < n ∧ c < n ∧ dt (P a) (P b) (P c) ≠ 0) :
    ∃ A Z p s, A < n ∧ Z < n ∧ p < n ∧ s < 2 ∧ A ≠ Z ∧ p ≠ A ∧ p ≠ Z ∧ (∀ x, x < n → gk (P A) ≤ gk (P x)) ∧ (∀ x, x < n → gk (P x) ≤ gk (P Z)) ∧
      ∀ r l, ¬ Ts n P E s p r l := by
  obtain ⟨a, b, c, ha, hb, hc, hd⟩ := h
  obtain ⟨A, hA, mA⟩ := min_f n (fun x => x < n) (fun x => gk (P x)) (fun x h => h) ⟨a, ha⟩
  obtain ⟨Z, hZ, mZ⟩ := min_f n (fun x => x < n) (fun x => - gk (P x)) (fun x h => h) ⟨a, ha⟩
  have ab : a ≠ b := fun e => (ne_of_dt hd).1 (by rw [e])
  have AZ : gk (P A) < gk (P Z) := by
    have a1 := mA a ha
    have a2 := mA b hb
    have a3 := mZ a ha
    have a4 := mZ b hb
    have : gk (P a) ≠ gk (P b) := fun e => ab (gk_inj G B ha hb e)
    omega
  have hz := up_key (G.1 A hA) (G.1 Z hZ)
  have hq : ∃ q, q < n ∧ dt (P A) (P Z) (P q) ≠ 0 := by
    by_cases h1 : dt (P A) (P Z) (P a) = 0
    · by_cases h2 : dt (P A) (P Z) (P b) = 0
      · by_cases h3 : dt (P A) (P Z) (P c) = 0
        · exfalso
          have := cram (P A) (P Z) (zup 0) (P a) (P b) (P c)
          rw [h1, h2, h3, Int.zero_mul, Int.zero_mul, Int.zero_mul] at this
          have := (Int.mul_eq_zero.1 this).resolve_right hd
          omega
        · exact ⟨c, hc, h3⟩
      · exact ⟨b, hb, h2⟩
    · exact ⟨a, ha, h1⟩
  obtain ⟨q, hq, dq⟩ := hq
  have neA : ∀ p, dt (P A) (P Z) (P p) ≠ 0 → p ≠ A := fun p h e => h (by rw [e, dt_aba])
  have neZ : ∀ p, dt (P A) (P Z) (P p) ≠ 0 → p ≠ Z := fun p h e => h (by rw [e, dt_baa])
  have ne : A ≠ Z := by intro e; rw [e] at AZ; omega
  rcases Int.lt_or_le 0 (dt (P A) (P Z) (P q)) with k | k
  · obtain ⟨p, hp, mp⟩ := min_f n (fun x => x < n) (fun x => - dt (P A) (P Z) (P x)) (fun x h => h) ⟨a, ha⟩
    have h1 := mp q hq
    refine ⟨A, Z, p, 0, hA, hZ, hp, by omega, ne, neA p (by omega), neZ p (by omega), mA, fun x hx => by have := mZ x hx; omega, ?_⟩
    intro r l ht
    exact far_no G hA hZ AZ ht (fun x hx => by have := mp x hx; omega)
  · obtain ⟨p, hp, mp⟩ := min_f n (fun x => x < n) (fun x => dt (P A) (P Z) (P x)) (fun x h => h) ⟨a, ha⟩
    have h1 := mp q hq
    refine ⟨A, Z, p, 1, hA, hZ, hp, by omega, ne, neA p (by omega), neZ p (by omega), mA, fun x hx => by have := mZ x hx; omega, ?_⟩
    intro r l ht
    exact far_no1 G hA hZ AZ ht (fun x hx => mp x hx)
theorem slot_ts {n : Nat} {P : Nat → Int × Int × Int} {E : Nat → Nat → Prop} {u v m s j : Nat} (h : SlotG n P E u v m s j) (hj : j ≠ 0) :
    ∃ r l, Ts n P E s m r l := by
  rcases h with ⟨a1, a2⟩ | ⟨a1, a2, l, a4⟩ | ⟨a1, a2, r, a4⟩ | ⟨a1, a2, a3, a4, a5⟩ | ⟨a1, a2, a3, a4, a5⟩
  · exact (hj a1).elim
  · exact ⟨v, l, a4⟩
  · exact ⟨r, u, a4⟩
  · exact (hj a1).elim
  · exact (hj a1).elim
theorem slot_low {n : Nat} {P : Nat → Int × Int × Int} {E : Nat → Nat → Prop} (G : Ge n P E) {u v m s j : Nat} (e : E u v) (hs : s < 2) (h : SlotG n P E u v m s j) :
    ∃ x, x < n ∧ gk (P x) < gk (P m) := by
  obtain ⟨hu, hv, _⟩ := G.2.2.1 u v e
  rcases h with ⟨a1, a2⟩ | ⟨a1, a2, l, a4⟩ | ⟨a1, a2, r, a4⟩ | ⟨a1, a2, a3, a4, a5⟩ | ⟨a1, a2, a3, a4, a5⟩
  · exact (ts_bd G hs a2).1
  · exact (ts_bd G hs a4).1
  · exact (ts_bd G hs a4).1
  · exact ⟨u, hu, a4⟩
  · exact ⟨v, hv, a4⟩
/-- not all on a line: at most 3n - 6 edges, here as ordered pairs -/
theorem dir_bd {n : Nat} {P : Nat → Int × Int × Int} {E : Nat → Nat → Prop} (G : Ge n P E) (B : Bx n P) (T : Th n P E)
    (h : ∃ a b c, a < n ∧ b < n ∧ c < n ∧ dt (P a) (P b) (P c) ≠ 0) (L : List (Nat × Nat)) (nd : L.Nodup)
    (hL : ∀ x, x ∈ L → E x.1 x.2) : L.length + 12 ≤ 6 * n := by
  obtain ⟨A, Z, p, s, hA, hZ, hp, hs, AZ, pA, pZ, mA, mZ, far⟩ := ends_ex G B h
  obtain ⟨K, k1, k2, k3⟩ := pig (fun (x : Nat × Nat) k => ∃ m s j, m < n ∧ s < 2 ∧ j < 3 ∧ k = 6 * m + 3 * s + j ∧ SlotG n P E x.1 x.2 m s j) (6 * n) L nd
    (fun x hx => by
      obtain ⟨m, s, j, h1, h2, h3, h4⟩ := slot_ex G B T (hL x hx)
      exact ⟨6 * m + 3 * s + j, by omega, m, s, j, h1, h2, h3, rfl, h4⟩)
    (fun x y k hx hy rx ry => by
      obtain ⟨m, s, j, h1, h2, h3, h4, h5⟩ := rx
      obtain ⟨m', s', j', q1, q2, q3, q4, q5⟩ := ry
      have em : m = m' := by omega
      have es : s = s' := by omega
      have ej : j = j' := by omega
      subst em; subst es; subst ej
      have := slot_un G (hL x hx) (hL y hy) h5 q5
      exact Prod.ext this.1 this.2)
  have := pig_len (6 * n) K [6 * A, 6 * A + 1, 6 * A + 2, 6 * A + 3, 6 * A + 4, 6 * A + 5, 6 * Z + 1, 6 * Z + 2, 6 * Z + 4, 6 * Z + 5, 6 * p + 3 * s + 1, 6 * p + 3 * s + 2] k2
    (by simp only [List.nodup_cons, List.mem_cons, List.not_mem_nil, List.nodup_nil, or_false, not_false_eq_true, and_true]; omega)
    (by
      intro k hk b hb e
      subst e
      obtain ⟨_, x, hx, m, s', j, h1, h2, h3, h4, h5⟩ := k3 k hk
      obtain ⟨y, hy, hky⟩ := slot_low G (hL x hx) h2 h5
      have nA : m ≠ A := by
        intro e
        rw [e] at hky
        have := mA y hy
        omega
      have nZ : m = Z → j = 0 := by
        intro e
        by_cases hj : j = 0
        · exact hj
        · obtain ⟨r, l, ht⟩ := slot_ts h5 hj
          obtain ⟨_, y, hy, hz⟩ := ts_bd G h2 ht
          rw [e] at hz
          have := mZ y hy
          omega
      have np : m = p → s' = s → j = 0 := by
        intro e1 e2
        by_cases hj : j = 0
        · exact hj
        · obtain ⟨r, l, ht⟩ := slot_ts h5 hj
          rw [e1, e2] at ht
          exact (far r l ht).elim
      simp only [List.mem_cons, List.not_mem_nil, or_false] at hb
      by_cases c1 : m = Z
      · have := nZ c1
        omega
      · by_cases c2 : m = p
        · by_cases c3 : s' = s
          · have := np c2 c3
            omega
          · omega
        · omega)
    (fun k hk => (k3 k hk).1)
    (by intro k hk; simp only [List.mem_cons, List.not_mem_nil, or_false] at hk; omega)
  simp only [List.length_cons, List.length_nil] at this
  omega
/-- all on a line: at most n - 1 edges -/
theorem lin_bd {n : Nat} {P : Nat → Int × Int × Int} {E : Nat → Nat → Prop} (G : Ge n P E) (B : Bx n P) (T : Th n P E) (hn : 0 < n)
    (h : ∀ a b c, a < n → b < n → c < n → dt (P a) (P b) (P c) = 0) (L : List (Nat × Nat)) (nd : L.Nodup)
    (hL : ∀ x, x ∈ L → E x.1 x.2) : L.length + 2 ≤ 2 * n := by
  obtain ⟨A, hA, mA⟩ := min_f n (fun x => x < n) (fun x => gk (P x)) (fun x h => h) ⟨0, hn⟩
  have nt : ∀ s m r l, ¬ Ts n P E s m r l := by
    intro s m r l ht
    obtain ⟨q1, q2, q3, _⟩ := ap_lt G ht.1
    have := ht.1.2.2.2.1
    rw [h m r l q1 q2 q3] at this
    omega
  obtain ⟨K, k1, k2, k3⟩ := pig (fun (x : Nat × Nat) k => ∃ m s, m < n ∧ s < 2 ∧ k = 2 * m + s ∧ SlotG n P E x.1 x.2 m s 0) (2 * n) L nd
    (fun x hx => by
      obtain ⟨m, s, j, h1, h2, h3, h4⟩ := slot_ex G B T (hL x hx)
      have : j = 0 := by
        by_cases hj : j = 0
        · exact hj
        · obtain ⟨r, l, ht⟩ := slot_ts h4 hj
          exact (nt s m r l ht).elim
      subst this
      exact ⟨2 * m + s, by omega, m, s, h1, h2, rfl, h4⟩)
    (fun x y k hx hy rx ry => by
      obtain ⟨m, s, h1, h2, h4, h5⟩ := rx
      obtain ⟨m', s', q1, q2, q4, q5⟩ := ry
      have em : m = m' := by omega
      have es : s = s' := by omega
      subst em; subst es
      have := slot_un G (hL x hx) (hL y hy) h5 q5
      exact Prod.ext this.1 this.2)
  have := pig_len (2 * n) K [2 * A, 2 * A + 1] k2
    (by simp only [List.nodup_cons, List.mem_cons, List.not_mem_nil, List.nodup_nil, or_false, not_false_eq_true, and_true]; omega)
    (by
      intro k hk b hb e
      subst e
      obtain ⟨_, x, hx, m, s', h1, h2, h4, h5⟩ := k3 k hk
      obtain ⟨y, hy, hky⟩ := slot_low G (hL x hx) h2 h5
      have nA : m ≠ A := by
        intro e
        rw [e] at hky
        have := mA y hy
        omega
      simp only [List.mem_cons, List.not_mem_nil, or_false] at hb
      omega)
    (fun k hk => (k3 k hk).1)
    (by intro k hk; simp only [List.mem_cons, List.not_mem_nil, or_false] at hk; omega)
  simp only [List.length_cons, List.length_nil] at this
  omega
/-- at most 2n - 5 triangles -/
theorem tri_bd {n : Nat} {P : Nat → Int × Int × Int} {E : Nat → Nat → Prop} (G : Ge n P E) (B : Bx n P)
    (h : ∃ a b c, a < n ∧ b < n ∧ c < n ∧ dt (P a) (P b) (P c) ≠ 0) (L : List (Nat × Nat)) (nd : L.Nodup)
    (hL : ∀ x, x ∈ L → ∃ c, Ap n P E x.1 x.2 c ∧ x.1 < x.2 ∧ x.1 < c) : L.length + 5 ≤ 2 * n := by
  obtain ⟨A, Z, p, s, hA, hZ, hp, hs, AZ, pA, pZ, mA, mZ, far⟩ := ends_ex G B h
  obtain ⟨K, k1, k2, k3⟩ := pig (fun (x : Nat × Nat) k => ∃ m s r l c, m < n ∧ s < 2 ∧ k = 2 * m + s ∧ Ts n P E s m r l ∧ x.1 < x.2 ∧ x.1 < c ∧
      ((m = x.1 ∧ r = x.2 ∧ l = c) ∨ (m = x.2 ∧ r = c ∧ l = x.1) ∨ (m = c ∧ r = x.1 ∧ l = x.2))) (2 * n) L nd
    (fun x hx => by
      obtain ⟨c, hc, c1, c2⟩ := hL x hx
      obtain ⟨m, s, r, l, h1, h2, h3⟩ := ts_ex G B hc
      have hm := (ap_lt G h2.1).1
      exact ⟨2 * m + s, by omega, m, s, r, l, c, hm, h1, rfl, h2, c1, c2, h3⟩)
    (fun x y k hx hy rx ry => by
      obtain ⟨m, s, r, l, c, h1, h2, h3, h4, h5, h6, h7⟩ := rx
      obtain ⟨m', s', r', l', c', q1, q2, q3, q4, q5, q6, q7⟩ := ry
      have em : m = m' := by omega
      have es : s = s' := by omega
      subst em; subst es
      have := ts_un G h4 q4
      exact Prod.ext (by omega) (by omega))
  have := pig_len (2 * n) K [2 * A, 2 * A + 1, 2 * Z, 2 * Z + 1, 2 * p + s] k2
    (by simp only [List.nodup_cons, List.mem_cons, List.not_mem_nil, List.nodup_nil, or_false, not_false_eq_true, and_true]; omega)
    (by
      intro k hk b hb e
      subst e
      obtain ⟨_, x, hx, m, s', r, l, c, h1, h2, h4, h5, _⟩ := k3 k hk
      obtain ⟨⟨y1, hy1, hk1⟩, ⟨y2, hy2, hk2⟩⟩ := ts_bd G h2 h5
      have nA : m ≠ A := by
        intro e
        rw [e] at hk1
        have := mA y1 hy1
        omega
      have nZ : m ≠ Z := by
        intro e
        rw [e] at hk2
        have := mZ y2 hy2
        omega
      have np : m = p → s' = s → False := by
        intro e1 e2
        rw [e1, e2] at h5
        exact far r l h5
      simp only [List.mem_cons, List.not_mem_nil, or_false] at hb
      by_cases c2 : m = p
      · by_cases c3 : s' = s
        · exact np c2 c3
        · omega
      · omega)
    (fun k hk => (k3 k hk).1)
    (by intro k hk; simp only [List.mem_cons, List.not_mem_nil, or_false] at hk; omega)
  simp only [List.length_cons, List.length_nil] at this
  omega

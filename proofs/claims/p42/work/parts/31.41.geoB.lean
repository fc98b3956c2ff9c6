theorem sl_hm (z v u y k : Int × Int × Int) (h0 : 0 < dt z v u) (h1 : 0 < dt z y k) (h2 : 0 ≤ dt z v y) (h3 : dt z u k < 0) (h4 : dt z v k < 0) (h5 : dt z u y ≤ 0) : False := by
  have fh0 : 0 < dt z v u := by have q_e := dt_012 z v u; omega
  have fh1 : 0 < dt z y k := by have q_e := dt_012 z y k; omega
  have fh2 : 0 ≤ dt z v y := by have q_e := dt_012 z v y; omega
  have fh3 : dt z u k < 0 := by have q_e := dt_012 z u k; omega
  have fh4 : dt z v k < 0 := by have q_e := dt_012 z v k; omega
  have fh5 : dt z u y ≤ 0 := by have q_e := dt_012 z u y; omega
  rcases (show dt z v y = 0 ∨ 0 < dt z v y by omega) with s_zvy | s_zvy
  · have q_g := gp5 z v u y k
    have q_0 := m_PP fh0 fh1
    have q_1 := m_Z_ (dt z u k) s_zvy
    have q_2 := m_nn (Int.le_of_lt fh4) fh5
    omega
  · have q_g := gp5 z v u y k
    have q_0 := m_PP fh0 fh1
    have q_1 := m_PN s_zvy fh3
    have q_2 := m_nn (Int.le_of_lt fh4) fh5
    omega
theorem sl_hq (q p x y c : Int × Int × Int) (h0 : dt q p x = 0) (h1 : dt q p c < 0) (h2 : dt q p y ≤ 0) (h3 : 0 < dt q x c) (h4 : dt q x y < 0) : False := by
  have fh0 : dt q p x = 0 := by have q_e := dt_012 q p x; omega
  have fh1 : dt q p c < 0 := by have q_e := dt_012 q p c; omega
  have fh2 : dt q p y ≤ 0 := by have q_e := dt_012 q p y; omega
  have fh3 : 0 < dt q x c := by have q_e := dt_012 q x c; omega
  have fh4 : dt q x y < 0 := by have q_e := dt_012 q x y; omega
  rcases (show dt q p y < 0 ∨ dt q p y = 0 by omega) with s_qpy | s_qpy
  · have q_g := gp5 q p x y c
    have q_0 := m_Z_ (dt q y c) fh0
    have q_1 := m_NP s_qpy fh3
    have q_2 := m_NN fh1 fh4
    omega
  · have q_g := gp5 q p x y c
    have q_0 := m_Z_ (dt q y c) fh0
    have q_1 := m_Z_ (dt q x c) s_qpy
    have q_2 := m_NN fh1 fh4
    omega
/-- from p the hull goes on to q -/
def Hu (n : Nat) (P : Nat → Int × Int × Int) (E : Nat → Nat → Prop) (p q : Nat) : Prop :=
  (∃ c, Ap n P E p q c) ∧ ∀ w, ¬ Ap n P E q p w
def neg3 (v : Int × Int × Int) : Int × Int × Int := (-v.1, -v.2.1, -v.2.2)
theorem dt_neg3 (a b c : Int × Int × Int) : dt a b (neg3 c) = - dt a b c := by
  simp only [dt, neg3]; grind
theorem dt_neg2 (a b c : Int × Int × Int) : dt a (neg3 b) c = - dt a b c := by
  simp only [dt, neg3]; grind
theorem hu_left {n : Nat} {P : Nat → Int × Int × Int} {E : Nat → Nat → Prop} (G : Ge n P E) (T : Th n P E) {p q : Nat} (h : Hu n P E p q) :
    ∀ x, x < n → 0 ≤ dt (P p) (P q) (P x) := by
  intro x hx
  obtain ⟨⟨c, hc⟩, h2⟩ := h
  rcases Int.lt_or_le (dt (P p) (P q) (P x)) 0 with z | z
  · have e := dt_102 (P p) (P q) (P x)
    obtain ⟨w, hw⟩ := T q p x (G.2.2.1 p q hc.1).2.2.2 hx (by omega)
    exact (h2 w hw).elim
  · exact z
theorem hu_f {n : Nat} {P : Nat → Int × Int × Int} {E : Nat → Nat → Prop} (G : Ge n P E) (T : Th n P E) {p q r : Nat}
    (h : Hu n P E p q) (k : Hu n P E p r) : q = r := by
  have hl := hu_left G T h
  have kl := hu_left G T k
  obtain ⟨⟨c, hc⟩, _⟩ := h
  obtain ⟨⟨d, hd⟩, _⟩ := k
  obtain ⟨hp, hq, hcn, _⟩ := ap_lt G hc
  obtain ⟨_, hr, _, pr, _, _⟩ := ap_lt G hd
  have a1 := hl r hr
  have a2 := kl q hq
  have e := dt_021 (P p) (P q) (P r)
  have z : dt (P p) (P q) (P r) = 0 := by omega
  have kc := kl c hcn
  have hcc := hc.2.2.2.1
  rcases Int.lt_or_le 0 (dt (P p) (P r) (P c)) with y | y
  · exact same_dir G (P c) hc.1 hd.1 z hcc y
  · have := eq_of3 (G.1 p hp) (G.1 q hq) (G.1 r hr) (P c) (by omega) z (by omega)
    exact (pr (G.2.1 r p hr hp this).symm).elim
theorem hu_inj {n : Nat} {P : Nat → Int × Int × Int} {E : Nat → Nat → Prop} (G : Ge n P E) (T : Th n P E) {p q r : Nat}
    (h : Hu n P E q p) (k : Hu n P E r p) : q = r := by
  have hl := hu_left G T h
  have kl := hu_left G T k
  obtain ⟨⟨c, hc⟩, _⟩ := h
  obtain ⟨⟨d, hd⟩, _⟩ := k
  obtain ⟨hq, hp, hcn, _⟩ := ap_lt G hc
  obtain ⟨hr, _, _, rp, _, _⟩ := ap_lt G hd
  have a1 := hl r hr
  have a2 := kl q hq
  have e0 := dt_210 (P q) (P p) (P r)
  have e1 := dt_102 (P q) (P p) (P r)
  have z : dt (P p) (P q) (P r) = 0 := by omega
  have kc := kl c hcn
  have hcc := hc.2.2.2.1
  have e2 := dt_102 (P q) (P p) (P c)
  have e3 := dt_102 (P r) (P p) (P c)
  rcases Int.lt_or_le 0 (dt (P r) (P p) (P c)) with y | y
  · exact same_dir G (neg3 (P c)) (G.2.2.1 q p hc.1).2.2.2 (G.2.2.1 r p hd.1).2.2.2 z (by rw [dt_neg3]; omega) (by rw [dt_neg3]; omega)
  · have := eq_of3 (G.1 p hp) (G.1 q hq) (G.1 r hr) (P c) (by omega) z (by omega)
    exact (rp (G.2.1 r p hr hp this)).elim
theorem hu_on {n : Nat} {P : Nat → Int × Int × Int} {E : Nat → Nat → Prop} (G : Ge n P E) (T : Th n P E) {p q : Nat}
    (h : Hu n P E p q) : ∃ r, Hu n P E q r := by
  have hl := hu_left G T h
  have ge := G.2.2.1
  obtain ⟨⟨c, hc⟩, h2⟩ := h
  obtain ⟨hp, hq, hcn, pq, _, _⟩ := ap_lt G hc
  have hcc := hc.2.2.2.1
  have eqp := (ge p q hc.1).2.2.2
  have e1 := dt_102 (P p) (P q) (P c)
  by_cases h1 : ∃ x, E q x ∧ x ≠ p ∧ dt (P p) (P q) (P x) = 0
  · obtain ⟨x, ex, xp, hx0⟩ := h1
    obtain ⟨_, hx, qx, exq⟩ := ge q x ex
    have e2 := dt_102 (P p) (P q) (P x)
    have k : 0 < dt (P q) (P x) (P c) := by
      rcases Int.lt_trichotomy (dt (P q) (P x) (P c)) 0 with y | y | y
      · exact (xp (same_dir G (neg3 (P c)) eqp ex (by omega) (by rw [dt_neg3]; omega) (by rw [dt_neg3]; omega)).symm).elim
      · have := eq_of3 (G.1 q hq) (G.1 p hp) (G.1 x hx) (P c) (by omega) (by omega) y
        exact (qx (G.2.1 x q hx hq this).symm).elim
      · exact y
    refine ⟨x, T q x c ex hcn k, ?_⟩
    intro w hw
    obtain ⟨_, _, hwn, _⟩ := ap_lt G hw
    have w1 := hw.2.2.2.1
    have e3 := dt_102 (P q) (P x) (P w)
    have e4 := dt_102 (P p) (P q) (P w)
    have := hl w hwn
    exact sl_hq (P q) (P p) (P x) (P w) (P c) (by omega) (by omega) (by omega) k (by omega)
  · have hpos : ∀ x, E q x → x ≠ p → 0 < dt (P p) (P q) (P x) := by
      intro x ex xp
      have := hl x (ge q x ex).2.1
      rcases Int.lt_or_le 0 (dt (P p) (P q) (P x)) with y | y
      · exact y
      · exact (h1 ⟨x, ex, xp, by omega⟩).elim
    have cp : c ≠ p := fun e => by rw [e, dt_aba] at hcc; omega
    obtain ⟨r, ⟨er, rp⟩, mr⟩ := min_n n (fun x => E q x ∧ x ≠ p) (fun x y => 0 < dt (P q) (P x) (P y))
      (fun x _ => by rw [dt_baa]; omega)
      (fun x y z hx hy hz h k => by
        rcases Int.lt_or_le 0 (dt (P q) (P x) (P z)) with w | w
        · exact w
        · have f1 := dt_102 (P p) (P q) (P x)
          have f2 := dt_102 (P p) (P q) (P y)
          have f3 := dt_102 (P p) (P q) (P z)
          have g1 := hpos x hx.1 hx.2
          have g2 := hpos y hy.1 hy.2
          have g3 := hpos z hz.1 hz.2
          exact (sl_half (P q) (neg3 (P p)) (P x) (P y) (P z) (by rw [dt_neg2]; omega) (by rw [dt_neg2]; omega) (by rw [dt_neg2]; omega) h k w).elim)
      (fun x hx => (ge q x hx.1).2.1) ⟨c, hc.2.1, cp⟩
    have k1 := hpos r er rp
    have f0 := dt_120 (P p) (P q) (P r)
    refine ⟨r, T q r p er hp (by omega), ?_⟩
    intro w hw
    have w1 := hw.2.2.2.1
    have ew := hw.2.1
    have f1 := dt_102 (P q) (P r) (P w)
    have f2 := dt_021 (P q) (P r) (P w)
    by_cases wp : w = p
    · subst wp
      omega
    · exact mr w ⟨ew, wp⟩ (by omega)
theorem hu_max {n : Nat} {P : Nat → Int × Int × Int} {E : Nat → Nat → Prop} (G : Ge n P E) (T : Th n P E) {u z v : Nat}
    (h : Hu n P E u z) (k : Hu n P E z v) (k1 : gk (P u) < gk (P z)) (k2 : gk (P v) < gk (P z)) :
    ∀ y, y < n → gk (P y) ≤ gk (P z) := by
  intro y hy
  have hl := hu_left G T h
  have kl := hu_left G T k
  have h0 := h
  obtain ⟨⟨c, hc⟩, h2⟩ := h
  obtain ⟨⟨d, hd⟩, _⟩ := k
  obtain ⟨hu, hz, _, _⟩ := ap_lt G hc
  obtain ⟨_, hv, _, _⟩ := ap_lt G hd
  have w := G.1
  have a1 := up_key (w z hz) (w u hu)
  have a2 := up_key (w z hz) (w v hv)
  have a3 := up_key (w z hz) (w y hy)
  have b1 := dn_key (w z hz) (w u hu)
  have b2 := dn_key (w z hz) (w v hv)
  rcases Int.lt_or_le (gk (P z)) (gk (P y)) with q | q
  · exfalso
    have l1 := hl y hy
    have l2 := kl y hy
    have l3 := hl v hv
    have e1 := dt_102 (P u) (P z) (P y)
    have e2 := dt_120 (P u) (P z) (P v)
    rcases Int.lt_or_le 0 (dt (P z) (P v) (P u)) with x | x
    · exact sl_hm (P z) (P v) (P u) (P y) (zup 0) x (by omega) l2 (by omega) (by omega) (by omega)
    · have := same_dir G (zup 1) hd.1 (G.2.2.1 u z hc.1).2.2.2 (by omega) (by omega) (by omega)
      subst this
      exact h2 d hd
  · exact q
def itr (f : Nat → Nat) : Nat → Nat → Nat
  | 0, x => x
  | k + 1, x => f (itr f k x)
theorem surj {n : Nat} (O : Nat → Prop) (f : Nat → Nat) (hb : ∀ p, O p → p < n) (hf : ∀ p, O p → O (f p))
    (inj : ∀ p q, O p → O q → f p = f q → p = q) : ∀ y, O y → ∃ x, O x ∧ f x = y := by
  classical
  intro y hy
  by_cases h : ∃ x, O x ∧ f x = y
  · exact h
  exfalso
  have mL : ∀ p, p ∈ (List.range n).filter (fun p => decide (O p)) ↔ O p := by
    intro p
    rw [List.mem_filter, List.mem_range, decide_eq_true_iff]
    exact ⟨fun h => h.2, fun h => ⟨hb p h, h⟩⟩
  have nd : ((List.range n).filter (fun p => decide (O p))).Nodup := List.Nodup.sublist List.filter_sublist List.nodup_range
  generalize (List.range n).filter (fun p => decide (O p)) = L at mL nd
  obtain ⟨K, k1, k2, k3⟩ := pig (fun x k => k = f x) n L nd (fun x hx => ⟨f x, hb _ (hf x ((mL x).1 hx)), rfl⟩)
    (fun x y k hx hy r1 r2 => inj x y ((mL x).1 hx) ((mL y).1 hy) (by omega))
  have s : K ⊆ L.erase y := by
    intro k hk
    obtain ⟨_, x, hx, e⟩ := k3 k hk
    rw [nd.mem_erase_iff]
    refine ⟨?_, ?_⟩
    · intro e2
      exact h ⟨x, (mL x).1 hx, by omega⟩
    · rw [e]; exact (mL _).2 (hf x ((mL x).1 hx))
  have l1 := List.Nodup.length_le_of_subset k2 s
  rw [List.length_erase_of_mem ((mL y).2 hy)] at l1
  have := List.length_pos_of_mem ((mL y).2 hy)
  omega
theorem cnt_len (n : Nat) (H : Nat → Prop) : ∀ L : List Nat, L.Nodup → (∀ p, p ∈ L ↔ (p < n ∧ H p)) → sumr n (fun p => ind (H p)) = L.length := by
  classical
  have h0 : sumr n (fun p => ind (H p)) = ((List.range n).filter (fun p => decide (H p))).length := by
    induction n with
    | zero => rfl
    | succ n ih =>
      rw [List.range_succ, List.filter_append, List.length_append, ← ih]
      simp only [sumr]
      rcases ind_c (H n) with ⟨q, e⟩ | ⟨q, e⟩
      · rw [e]; simp [q]
      · rw [e]; simp [q]
  intro L nd h
  rw [h0]
  have nd2 : ((List.range n).filter (fun p => decide (H p))).Nodup := List.Nodup.sublist List.filter_sublist List.nodup_range
  have m : ∀ p, p ∈ (List.range n).filter (fun p => decide (H p)) ↔ p ∈ L := by
    intro p
    rw [List.mem_filter, List.mem_range, decide_eq_true_iff, h]
  have a := List.Nodup.length_le_of_subset nd (fun p hp => (m p).2 hp)
  have b := List.Nodup.length_le_of_subset nd2 (fun p hp => (m p).1 hp)
  omega
theorem cyc {n : Nat} (H : Nat → Prop) (f : Nat → Nat) (hb : ∀ p, H p → p < n) (hf : ∀ p, H p → H (f p))
    (inj : ∀ p q, H p → H q → f p = f q → p = q)
    (one : ∀ O : Nat → Prop, (∃ p, O p) → (∀ p, O p → H p) → (∀ p, O p → O (f p)) → ∀ p, H p → O p) (h0 : Nat) (hh : H h0) :
    ∃ T, 1 ≤ T ∧ T ≤ n ∧ itr f T h0 = h0 ∧ (∀ k, 0 < k → k < T → itr f k h0 ≠ h0) ∧ (∀ k, H (itr f k h0)) ∧
      (∀ p, H p → ∃ k, k < T ∧ itr f k h0 = p) ∧ sumr n (fun p => ind (H p)) = T := by
  have hk : ∀ k, H (itr f k h0) := by
    intro k
    induction k with
    | zero => exact hh
    | succ k ih => exact hf _ ih
  have all := one (fun p => ∃ k, itr f k h0 = p) ⟨h0, 0, rfl⟩ (fun p ⟨k, e⟩ => e ▸ hk k) (fun p ⟨k, e⟩ => ⟨k + 1, by simp only [itr, e]⟩)
  obtain ⟨x, ⟨k0, e0⟩, hx⟩ := surj (n := n) (fun p => ∃ k, itr f k h0 = p) f (fun p ⟨k, e⟩ => hb p (e ▸ hk k)) (fun p ⟨k, e⟩ => ⟨k + 1, by simp only [itr, e]⟩)
    (fun p q ⟨k, e⟩ ⟨j, g⟩ h => inj p q (e ▸ hk k) (g ▸ hk j) h) h0 ⟨0, rfl⟩
  obtain ⟨T, ⟨t1, t2, t3⟩, mT⟩ := min_f (k0 + 2) (fun t => t < k0 + 2 ∧ 1 ≤ t ∧ itr f t h0 = h0) (fun t => (t : Int)) (fun t h => h.1)
    ⟨k0 + 1, by omega, by omega, by simp only [itr, e0, hx]⟩
  have min : ∀ k, 0 < k → k < T → itr f k h0 ≠ h0 := by
    intro k k1 k2 e
    have := mT k ⟨by omega, k1, e⟩
    omega
  have back : ∀ i d, itr f (i + d) h0 = itr f i h0 → itr f d h0 = h0 := by
    intro i
    induction i with
    | zero => intro d h; rw [Nat.zero_add] at h; exact h
    | succ i ih =>
      intro d h
      apply ih d
      apply inj _ _ (hk _) (hk _)
      have e : i + 1 + d = (i + d) + 1 := by omega
      rw [e] at h
      exact h
  have red : ∀ k, ∃ j, j < T ∧ itr f k h0 = itr f j h0 := by
    intro k
    induction k with
    | zero => exact ⟨0, by omega, rfl⟩
    | succ k ih =>
      obtain ⟨j, hj, e⟩ := ih
      by_cases c : j + 1 = T
      · refine ⟨0, by omega, ?_⟩
        have : itr f (k + 1) h0 = itr f (j + 1) h0 := by simp only [itr, e]
        rw [this, c, t3]
        rfl
      · exact ⟨j + 1, by omega, by simp only [itr, e]⟩
  obtain ⟨K, l1, l2, l3⟩ := pig (fun j k => k = itr f j h0) n (List.range T) List.nodup_range (fun j _ => ⟨_, hb _ (hk j), rfl⟩)
    (fun i j k hi hj e1 e2 => by
      rw [List.mem_range] at hi hj
      rcases Nat.lt_trichotomy i j with c | c | c
      · have := back i (j - i) (by rw [show i + (j - i) = j by omega]; omega)
        exact (min (j - i) (by omega) (by omega) this).elim
      · exact c
      · have := back j (i - j) (by rw [show j + (i - j) = i by omega]; omega)
        exact (min (i - j) (by omega) (by omega) this).elim)
  rw [List.length_range] at l1
  have mem : ∀ p, H p → ∃ k, k < T ∧ itr f k h0 = p := by
    intro p hp
    obtain ⟨k, e⟩ := all p hp
    obtain ⟨j, hj, e2⟩ := red k
    exact ⟨j, hj, by rw [← e2, e]⟩
  have memK : ∀ p, H p → p ∈ K := by
    intro p hp
    -- K has T places and lies in the orbit; the orbit has T points
    obtain ⟨k, hkT, e⟩ := mem p hp
    by_cases c : p ∈ K
    · exact c
    · exfalso
      have s : p :: K ⊆ (List.range T).map (fun j => itr f j h0) := by
        intro x hx
        rcases List.mem_cons.1 hx with e2 | hx
        · rw [e2]; exact List.mem_map.2 ⟨k, List.mem_range.2 hkT, e⟩
        · obtain ⟨_, j, hj, e3⟩ := l3 x hx
          exact List.mem_map.2 ⟨j, hj, e3.symm⟩
      have := List.Nodup.length_le_of_subset (List.nodup_cons.2 ⟨c, l2⟩) s
      rw [List.length_cons, List.length_map, List.length_range] at this
      omega
  have cnt := cnt_len n H K l2 (fun p => ⟨fun hp => by
      obtain ⟨q, j, _, e⟩ := l3 p hp
      exact ⟨q, e ▸ hk j⟩, fun h => memK p h.2⟩)
  have tn := List.Nodup.length_le_of_subset (l₁ := K) (l₂ := List.range n) l2 (fun k hk => List.mem_range.2 (l3 k hk).1)
  rw [List.length_range] at tn
  exact ⟨T, t2, by omega, t3, min, hk, mem, by omega⟩
/-- the hull is one circle -/
theorem hull_cyc {n : Nat} {P : Nat → Int × Int × Int} {E : Nat → Nat → Prop} (G : Ge n P E) (B : Bx n P) (T : Th n P E) (f : Nat → Nat)
    (hf : ∀ p q, Hu n P E p q → f p = q) (h0 : Nat) (hh : ∃ q, Hu n P E h0 q) :
    ∃ T, 1 ≤ T ∧ T ≤ n ∧ itr f T h0 = h0 ∧ (∀ k, 0 < k → k < T → itr f k h0 ≠ h0) ∧ (∀ k, ∃ q, Hu n P E (itr f k h0) q) ∧
      (∀ p, (∃ q, Hu n P E p q) → ∃ k, k < T ∧ itr f k h0 = p) ∧ sumr n (fun p => ind (∃ q, Hu n P E p q)) = T := by
  have step : ∀ p, (∃ q, Hu n P E p q) → Hu n P E p (f p) := by
    intro p ⟨q, hq⟩
    rw [hf p q hq]; exact hq
  have hb : ∀ p, (∃ q, Hu n P E p q) → p < n := by
    intro p ⟨q, ⟨c, hc⟩, _⟩
    exact (ap_lt G hc).1
  have on : ∀ p, (∃ q, Hu n P E p q) → ∃ q, Hu n P E (f p) q := fun p h => hu_on G T (step p h)
  have inj : ∀ p q, (∃ x, Hu n P E p x) → (∃ x, Hu n P E q x) → f p = f q → p = q := by
    intro p q hp hq e
    have h1 := step p hp
    have h2 := step q hq
    rw [← e] at h2
    exact hu_inj G T h1 h2
  have last : ∀ O : Nat → Prop, (∃ p, O p) → (∀ p, O p → ∃ q, Hu n P E p q) → (∀ p, O p → O (f p)) → ∃ z, O z ∧ ∀ y, y < n → gk (P y) ≤ gk (P z) := by
    intro O h1 h2 h3
    obtain ⟨z, hz, mz⟩ := min_f n O (fun p => - gk (P p)) (fun p hp => hb p (h2 p hp)) h1
    obtain ⟨u, hu, eu⟩ := surj (n := n) O f (fun p hp => hb p (h2 p hp)) h3 (fun p q hp hq => inj p q (h2 p hp) (h2 q hq)) z hz
    have s1 := step u (h2 u hu)
    have s2 := step z (h2 z hz)
    rw [eu] at s1
    have m1 := mz u hu
    have m2 := mz (f z) (h3 z hz)
    obtain ⟨⟨c1, hc1⟩, _⟩ := s1
    obtain ⟨⟨c2, hc2⟩, _⟩ := s2
    obtain ⟨q1, q2, _, q3, _⟩ := ap_lt G hc1
    obtain ⟨q4, q5, _, q6, _⟩ := ap_lt G hc2
    have n1 : gk (P u) ≠ gk (P z) := fun e => q3 (gk_inj G B q1 q2 e)
    have n2 : gk (P z) ≠ gk (P (f z)) := fun e => q6 (gk_inj G B q4 q5 e)
    refine ⟨z, hz, ?_⟩
    have s1 := step u (h2 u hu)
    rw [eu] at s1
    exact hu_max G T s1 (step z (h2 z hz)) (by omega) (by omega)
  exact cyc (fun p => ∃ q, Hu n P E p q) f hb on inj (by
    intro O h1 h2 h3 p hp
    by_cases c : O p
    · exact c
    · exfalso
      obtain ⟨z, hz, mz⟩ := last O h1 h2 h3
      obtain ⟨y, hy, my⟩ := last (fun p => (∃ q, Hu n P E p q) ∧ ¬ O p) ⟨p, hp, c⟩ (fun p h => h.1) (by
        intro x ⟨hx, nx⟩
        refine ⟨on x hx, ?_⟩
        intro ox
        obtain ⟨w, hw, ew⟩ := surj (n := n) O f (fun p hp => hb p (h2 p hp)) h3 (fun p q hp hq => inj p q (h2 p hp) (h2 q hq)) (f x) ox
        have := inj w x (h2 w hw) hx ew
        exact nx (this ▸ hw))
      have hzn := hb z (h2 z hz)
      have hyn := hb y hy.1
      have a1 := mz y hyn
      have a2 := my z hzn
      have := gk_inj G B hzn hyn (by omega)
      exact hy.2 (this ▸ hz)) h0 hh

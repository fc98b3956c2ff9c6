/-- a loop that carries a state and may end early -/
theorem lpE {S R : Type} (g : Nat → Nat → S → Option R) (n : Nat) (I : Nat → S → Prop) (Q : R → Prop)
    (stop : ∀ k s, I n s → ∃ r, g (k + 1) n s = some r ∧ Q r)
    (step : ∀ k i s, i < n → I i s → (∃ r, g (k + 1) i s = some r ∧ Q r) ∨ ∃ s', I (i + 1) s' ∧ g (k + 1) i s = g k (i + 1) s') :
    ∀ d i k s, i + d = n → d < k → I i s → ∃ r, g k i s = some r ∧ Q r := by
  intro d
  induction d with
  | zero =>
    intro i k s h hk hi
    obtain ⟨k, rfl⟩ : ∃ j, k = j + 1 := ⟨k - 1, by omega⟩
    have : i = n := by omega
    subst this
    exact stop k s hi
  | succ d ih =>
    intro i k s h hk hi
    obtain ⟨k, rfl⟩ : ∃ j, k = j + 1 := ⟨k - 1, by omega⟩
    rcases step k i s (by omega) hi with h1 | ⟨s', h1, h2⟩
    · exact h1
    · rw [h2]; exact ih (i + 1) k s' (by omega) (by omega) h1
/-- k pairs of the row stand before (x, y) -/
def Pos (c : Nat) (f g : Nat → Nat) (k x y : Nat) : Prop := k ≤ c ∧ ∀ j, j < c → (j < k ↔ Bf (f j) (g j) x y)
section POS
variable {n : Nat} {R : Nat → Nat → Prop} {c : Nat} {f g : Nat → Nat}
theorem pos_hit (h : Lsa R c f g) {k x y : Nat} (p : Pos c f g k x y) (r : R x y) : k < c ∧ f k = x ∧ g k = y ∧ Pos c f g (k + 1) x (y + 1) := by
  obtain ⟨j, h1, h2, h3⟩ := h.2.2 x y r
  have jk : j = k := by
    have a := p.2 j h1
    rw [h2, h3] at a
    have nb : ¬ Bf x y x y := by unfold Bf; omega
    have nj : ¬ j < k := fun z => nb (a.1 z)
    rcases Nat.lt_or_ge k j with q | q
    · exfalso
      have b := h.2.1 k j q h1
      rw [h2, h3] at b
      have := (p.2 k (by omega)).2 b
      omega
    · omega
  subst jk
  refine ⟨h1, h2, h3, by omega, ?_⟩
  intro i hi
  have a := p.2 i hi
  constructor
  · intro z
    by_cases q : i = j
    · rw [q, h2, h3]; unfold Bf; omega
    · have := a.1 (by omega)
      unfold Bf at this ⊢; omega
  · intro z
    by_cases q : f i = x ∧ g i = y
    · have := lst_inj h.2.1 i j hi h1 (by rw [q.1, h2]) (by rw [q.2, h3])
      omega
    · have : i < j := a.2 (by unfold Bf at z ⊢; omega)
      omega
theorem pos_miss (h : Lsa R c f g) {k x y : Nat} (p : Pos c f g k x y) (r : ¬ R x y) : Pos c f g k x (y + 1) := by
  refine ⟨p.1, fun j hj => ?_⟩
  rw [p.2 j hj]
  have : ¬ (f j = x ∧ g j = y) := fun q => r (by have := h.1 j hj; rw [q.1, q.2] at this; exact this)
  unfold Bf; omega
theorem pos_row (hR : ∀ u v, R u v → u < v ∧ v < n) (h : Lsa R c f g) {k x : Nat} (p : Pos c f g k x n) : Pos c f g k (x + 1) (x + 2) := by
  refine ⟨p.1, fun j hj => ?_⟩
  rw [p.2 j hj]
  have := hR _ _ (h.1 j hj)
  unfold Bf; omega
theorem pos_0 (hR : ∀ u v, R u v → u < v ∧ v < n) (h : Lsa R c f g) : Pos c f g 0 0 1 := by
  refine ⟨by omega, fun j hj => ?_⟩
  have := hR _ _ (h.1 j hj)
  unfold Bf; omega
theorem pos_end (hR : ∀ u v, R u v → u < v ∧ v < n) (h : Lsa R c f g) {k : Nat} (p : Pos c f g k n (n + 1)) : k = c := by
  by_cases q : k < c
  · have := hR _ _ (h.1 k q)
    have a := (p.2 k q).2 (by unfold Bf; omega)
    omega
  · have := p.1; omega
end POS
section ASK2
variable {n m : Nat} {X Y : Nat → Int} {L H : Nat → Nat} {mnow : Nat → Int32}
variable {E : Nat → Nat → Prop} {c : Nat} {f g : Nat → Nat}
theorem m_total (hM : MP n m X Y L H mnow) (hO : Ok n m X Y L H) (G : Ge n (pt X Y) E) {medg : Nat → Int32} (hE : ME medg E) (hc : c ≤ 42) (h : Lsa (fun u v => E u v ∧ u < v) c f g) (F : Nat) (hF : 300 ≤ F) :
    s_Mod_edgeTotal F mnow medg = some (i32 c) := by
  have hn := hO.1
  have hR : ∀ u v, E u v ∧ u < v → u < v ∧ v < n := fun u v h => ⟨h.2, (G.2.2.1 u v h.1).2.1⟩
  have inner : ∀ a k, a < n → Pos c f g k a (a + 1) → ∃ k', Pos c f g k' (a + 1) (a + 2) ∧ s_Mod_edgeTotal_L16 mnow medg (i32 a) F (i32 k) (i32 (a + 1)) = some (i32 k', i32 n) := by
    intro a k ha hp
    obtain ⟨k', ⟨_, q1⟩, q2⟩ := lp (fun fu i (k : Nat) => s_Mod_edgeTotal_L16 mnow medg (i32 a) fu (i32 k) (i32 i)) n (fun i k => a < i ∧ Pos c f g k a i) (fun k => (i32 k, i32 n))
      (fun fu s hs => by simp only [s_Mod_edgeTotal_L16, m_n hM, Option.bind_some]; rw [if_pos (y_le (by omega) (by omega))])
      (fun fu i s hi ⟨hai, hs⟩ => by
        by_cases e : E a i
        · obtain ⟨_, _, _, q⟩ := pos_hit h hs ⟨e, hai⟩
          refine ⟨s + 1, ⟨by omega, q⟩, ?_⟩
          simp only [s_Mod_edgeTotal_L16, m_n hM, Option.bind_some, m_has hE (show a < 17 by omega) (show i < 17 by omega)]
          rw [if_neg (n_le (by omega) hi), if_neg (bI_t e), i32_s, i32_s]
        · refine ⟨s, ⟨by omega, pos_miss h hs (fun z => e z.1)⟩, ?_⟩
          simp only [s_Mod_edgeTotal_L16, m_n hM, Option.bind_some, m_has hE (show a < 17 by omega) (show i < 17 by omega)]
          rw [if_neg (n_le (by omega) hi), if_pos (bI_f e), i32_s])
      (n - (a + 1)) (a + 1) F k (by omega) (by omega) ⟨by omega, hp⟩
    exact ⟨k', pos_row hR h q1, q2⟩
  obtain ⟨k', q1, q2⟩ := lp (fun fu i (k : Nat) => s_Mod_edgeTotal_L4 F mnow medg fu (i32 k) (i32 i)) n (fun i k => Pos c f g k i (i + 1)) (fun k => (i32 k, i32 n))
    (fun fu s hs => by simp only [s_Mod_edgeTotal_L4, m_n hM, Option.bind_some]; rw [if_pos (y_le (by omega) (by omega))])
    (fun fu i s hi hs => by
      obtain ⟨k', q1, q2⟩ := inner i s hi hs
      refine ⟨k', q1, ?_⟩
      simp only [s_Mod_edgeTotal_L4, m_n hM, Option.bind_some]
      rw [if_neg (n_le (by omega) hi), i32_s, q2]
      simp only [Option.bind_some])
    n 0 F 0 (by omega) (by omega) (pos_0 hR h)
  have := pos_end hR h q1
  subst this
  unfold s_Mod_edgeTotal
  have q2 : s_Mod_edgeTotal_L4 F mnow medg F (0 : Int32) (0 : Int32) = some (i32 k', i32 n) := q2
  rw [q2]; rfl
/-- the ends of an edge by its number -/
theorem m_edge (hM : MP n m X Y L H mnow) (hO : Ok n m X Y L H) (G : Ge n (pt X Y) E) {medg : Nat → Int32} (hE : ME medg E) (hc : c ≤ 42) (h : Lsa (fun u v => E u v ∧ u < v) c f g) (F : Nat) (hF : 300 ≤ F) (mnum : Nat → Int32) (a0 : Int32) :
    ∃ r, s_Mod_edge F mnow medg mnum a0 = some r ∧ ((∃ a, a < c ∧ a0 = i32 a ∧ r.1 = true ∧ r.2 0 = i32 (f a) ∧ r.2 1 = i32 (g a)) ∨ ((¬ ∃ a, a < c ∧ a0 = i32 a) ∧ r.1 = false)) := by
  have hn := hO.1
  have hR : ∀ u v, E u v ∧ u < v → u < v ∧ v < n := fun u v h => ⟨h.2, (G.2.2.1 u v h.1).2.1⟩
  -- what the loops may end with
  have inner : ∀ a k, a < n → Pos c f g k a (a + 1) → (∀ j, j < k → a0 ≠ i32 j) → ∃ r, s_Mod_edge_L17 mnow medg mnum a0 (i32 a) F (i32 k) (i32 (a + 1)) = some r ∧
      ((∃ b q, b < c ∧ a0 = i32 b ∧ r = Sum.inl (true, q) ∧ q 0 = i32 (f b) ∧ q 1 = i32 (g b)) ∨ (∃ k', r = Sum.inr (i32 k', i32 n) ∧ Pos c f g k' (a + 1) (a + 2) ∧ (∀ j, j < k' → a0 ≠ i32 j))) := by
    intro a k ha hp hk0
    exact lpE (fun fu i (k : Nat) => s_Mod_edge_L17 mnow medg mnum a0 (i32 a) fu (i32 k) (i32 i)) n (fun i k => a < i ∧ Pos c f g k a i ∧ (∀ j, j < k → a0 ≠ i32 j)) _
      (fun fu s ⟨_, hs, hs2⟩ => by
        refine ⟨Sum.inr (i32 s, i32 n), ?_, Or.inr ⟨s, rfl, pos_row hR h hs, hs2⟩⟩
        simp only [s_Mod_edge_L17, m_n hM, Option.bind_some]
        rw [if_pos (y_le (by omega) (by omega))])
      (fun fu i s hi ⟨hai, hs, hs2⟩ => by
        have hs1 := hs.1
        by_cases e : E a i
        · obtain ⟨q1, q2, q3, q4⟩ := pos_hit h hs ⟨e, hai⟩
          by_cases z : i32 s = a0
          · left
            refine ⟨Sum.inl (true, (fun j => if j = 1 then i32 i else if j = 0 then i32 a else mnum j)), ?_, Or.inl ⟨s, (fun j => if j = 1 then i32 i else if j = 0 then i32 a else mnum j), q1, z.symm, rfl, ?_, ?_⟩⟩
            · simp only [s_Mod_edge_L17, m_n hM, Option.bind_some, m_has hE (show a < 17 by omega) (show i < 17 by omega)]
              rw [if_neg (n_le (by omega) hi), if_neg (bI_t e), if_pos z, show (0 : Int32) = i32 0 from rfl, aset_i mnum _ (by omega) (by omega)]
              simp only [Option.bind_some]
              rw [show (1 : Int32) = i32 1 from rfl, aset_i _ _ (by omega) (by omega)]
              rfl
            · show i32 a = _
              rw [q2]
            · show i32 i = _
              rw [q3]
          · right
            refine ⟨s + 1, ⟨by omega, q4, ?_⟩, ?_⟩
            · intro j hj
              by_cases w : j = s
              · rw [w]; exact fun y => z y.symm
              · exact hs2 j (by omega)
            · simp only [s_Mod_edge_L17, m_n hM, Option.bind_some, m_has hE (show a < 17 by omega) (show i < 17 by omega)]
              rw [if_neg (n_le (by omega) hi), if_neg (bI_t e), if_neg z, i32_s, i32_s]
        · right
          refine ⟨s, ⟨by omega, pos_miss h hs (fun z => e z.1), hs2⟩, ?_⟩
          simp only [s_Mod_edge_L17, m_n hM, Option.bind_some, m_has hE (show a < 17 by omega) (show i < 17 by omega)]
          rw [if_neg (n_le (by omega) hi), if_pos (bI_f e), i32_s])
      (n - (a + 1)) (a + 1) F k (by omega) (by omega) ⟨by omega, hp, hk0⟩
  obtain ⟨r, r1, r2⟩ := lpE (fun fu i (k : Nat) => s_Mod_edge_L4 F mnow medg mnum a0 fu (i32 k) (i32 i)) n (fun i k => Pos c f g k i (i + 1) ∧ (∀ j, j < k → a0 ≠ i32 j))
    (fun r => (∃ b q, b < c ∧ a0 = i32 b ∧ r = Sum.inl (true, q) ∧ q 0 = i32 (f b) ∧ q 1 = i32 (g b)) ∨ (∃ y, r = Sum.inr y ∧ (∀ j, j < c → a0 ≠ i32 j)))
    (fun fu s ⟨hs, hs2⟩ => by
      have := pos_end hR h hs
      subst this
      refine ⟨Sum.inr (i32 s, i32 n), ?_, Or.inr ⟨_, rfl, hs2⟩⟩
      simp only [s_Mod_edge_L4, m_n hM, Option.bind_some]
      rw [if_pos (y_le (by omega) (by omega))])
    (fun fu i s hi ⟨hs, hs2⟩ => by
      obtain ⟨r, q1, q2⟩ := inner i s hi hs hs2
      rcases q2 with ⟨b, q, w1, w2, rfl, w3⟩ | ⟨k', rfl, w1, w2⟩
      · left
        refine ⟨Sum.inl (true, q), ?_, Or.inl ⟨b, q, w1, w2, rfl, w3⟩⟩
        simp only [s_Mod_edge_L4, m_n hM, Option.bind_some]
        rw [if_neg (n_le (by omega) hi), i32_s, q1]
        rfl
      · right
        refine ⟨k', ⟨w1, w2⟩, ?_⟩
        simp only [s_Mod_edge_L4, m_n hM, Option.bind_some]
        rw [if_neg (n_le (by omega) hi), i32_s, q1]
        rfl)
    n 0 F 0 (by omega) (by omega) ⟨pos_0 hR h, fun j hj => by omega⟩
  have r1 : s_Mod_edge_L4 F mnow medg mnum a0 F (0 : Int32) (0 : Int32) = some r := r1
  unfold s_Mod_edge
  rw [r1]
  rcases r2 with ⟨b, q, w1, w2, rfl, w3, w4⟩ | ⟨y, rfl, w⟩
  · exact ⟨(true, q), rfl, Or.inl ⟨b, w1, w2, rfl, w3, w4⟩⟩
  · exact ⟨(false, mnum), rfl, Or.inr ⟨fun ⟨a, z1, z2⟩ => w a z1 z2, rfl⟩⟩
theorem m_numOf (hM : MP n m X Y L H mnow) (hO : Ok n m X Y L H) (G : Ge n (pt X Y) E) {medg : Nat → Int32} (hE : ME medg E) (hc : c ≤ 42) (h : Lsa (fun u v => E u v ∧ u < v) c f g) (F : Nat) (hF : 300 ≤ F) {x y : Nat} (hx : x < n) (hy : y < n) :
    ∃ r, s_Mod_numberOf F mnow medg (i32 x) (i32 y) = some r ∧ ((∃ k, k < c ∧ f k = min x y ∧ g k = max x y ∧ r = i32 k) ∨ ((∀ k, k < c → ¬ (f k = min x y ∧ g k = max x y)) ∧ r = (-1 : Int32))) := by
  have hn := hO.1
  have hR : ∀ u v, E u v ∧ u < v → u < v ∧ v < n := fun u v h => ⟨h.2, (G.2.2.1 u v h.1).2.1⟩
  have i1 := imin_i (a := x) (b := y) (by omega) (by omega)
  have i2 := imax_i (a := x) (b := y) (by omega) (by omega)
  have lmin := Nat.min_le_left x y
  have lmax : max x y < n := by rcases Nat.le_total x y with q | q; · rw [Nat.max_eq_right q]; exact hy
                                · rw [Nat.max_eq_left q]; exact hx
  have inner : ∀ a k, a < n → Pos c f g k a (a + 1) → (∀ j, j < k → ¬ (f j = min x y ∧ g j = max x y)) → ∃ r, s_Mod_numberOf_L20 mnow medg (i32 x) (i32 y) (i32 a) F (i32 k) (i32 (a + 1)) = some r ∧
      ((∃ b, b < c ∧ f b = min x y ∧ g b = max x y ∧ r = Sum.inl (i32 b)) ∨ (∃ k', r = Sum.inr (i32 k', i32 n) ∧ Pos c f g k' (a + 1) (a + 2) ∧ (∀ j, j < k' → ¬ (f j = min x y ∧ g j = max x y)))) := by
    intro a k ha hp hk0
    exact lpE (fun fu i (k : Nat) => s_Mod_numberOf_L20 mnow medg (i32 x) (i32 y) (i32 a) fu (i32 k) (i32 i)) n (fun i k => a < i ∧ Pos c f g k a i ∧ (∀ j, j < k → ¬ (f j = min x y ∧ g j = max x y))) _
      (fun fu s ⟨_, hs, hs2⟩ => by
        refine ⟨Sum.inr (i32 s, i32 n), ?_, Or.inr ⟨s, rfl, pos_row hR h hs, hs2⟩⟩
        simp only [s_Mod_numberOf_L20, m_n hM, Option.bind_some]
        rw [if_pos (y_le (by omega) (by omega))])
      (fun fu i s hi ⟨hai, hs, hs2⟩ => by
        by_cases e : E a i
        · obtain ⟨q1, q2, q3, q4⟩ := pos_hit h hs ⟨e, hai⟩
          by_cases z : a = min x y ∧ i = max x y
          · left
            refine ⟨Sum.inl (i32 s), ?_, Or.inl ⟨s, q1, by rw [q2, z.1], by rw [q3, z.2], rfl⟩⟩
            simp only [s_Mod_numberOf_L20, m_n hM, Option.bind_some, m_has hE (show a < 17 by omega) (show i < 17 by omega), i1, i2]
            rw [if_neg (n_le (by omega) hi), if_neg (bI_t e), if_pos (by rw [← z.1]), if_pos (by rw [← z.2])]
          · right
            refine ⟨s + 1, ⟨by omega, q4, ?_⟩, ?_⟩
            · intro j hj
              by_cases w : j = s
              · rw [w, q2, q3]; exact z
              · exact hs2 j (by omega)
            · simp only [s_Mod_numberOf_L20, m_n hM, Option.bind_some, m_has hE (show a < 17 by omega) (show i < 17 by omega), i1, i2]
              rw [if_neg (n_le (by omega) hi), if_neg (bI_t e), i32_s, i32_s]
              by_cases z1 : a = min x y
              · rw [if_pos (by rw [← z1]), if_neg (n_eq (by omega) (by omega) (fun z2 => z ⟨z1, z2⟩))]
              · rw [if_neg (n_eq (by omega) (by omega) z1)]
        · right
          refine ⟨s, ⟨by omega, pos_miss h hs (fun z => e z.1), hs2⟩, ?_⟩
          simp only [s_Mod_numberOf_L20, m_n hM, Option.bind_some, m_has hE (show a < 17 by omega) (show i < 17 by omega)]
          rw [if_neg (n_le (by omega) hi), if_pos (bI_f e), i32_s])
      (n - (a + 1)) (a + 1) F k (by omega) (by omega) ⟨by omega, hp, hk0⟩
  obtain ⟨r, r1, r2⟩ := lpE (fun fu i (k : Nat) => s_Mod_numberOf_L5 F mnow medg (i32 x) (i32 y) fu (i32 k) (i32 i)) n (fun i k => Pos c f g k i (i + 1) ∧ (∀ j, j < k → ¬ (f j = min x y ∧ g j = max x y)))
    (fun r => (∃ b, b < c ∧ f b = min x y ∧ g b = max x y ∧ r = Sum.inl (i32 b)) ∨ (∃ z, r = Sum.inr z ∧ (∀ j, j < c → ¬ (f j = min x y ∧ g j = max x y))))
    (fun fu s ⟨hs, hs2⟩ => by
      have := pos_end hR h hs
      subst this
      refine ⟨Sum.inr (i32 s, i32 n), ?_, Or.inr ⟨_, rfl, hs2⟩⟩
      simp only [s_Mod_numberOf_L5, m_n hM, Option.bind_some]
      rw [if_pos (y_le (by omega) (by omega))])
    (fun fu i s hi ⟨hs, hs2⟩ => by
      obtain ⟨r, q1, q2⟩ := inner i s hi hs hs2
      rcases q2 with ⟨b, w1, w2, w3, rfl⟩ | ⟨k', rfl, w1, w2⟩
      · left
        refine ⟨Sum.inl (i32 b), ?_, Or.inl ⟨b, w1, w2, w3, rfl⟩⟩
        simp only [s_Mod_numberOf_L5, m_n hM, Option.bind_some]
        rw [if_neg (n_le (by omega) hi), i32_s, q1]
        rfl
      · right
        refine ⟨k', ⟨w1, w2⟩, ?_⟩
        simp only [s_Mod_numberOf_L5, m_n hM, Option.bind_some]
        rw [if_neg (n_le (by omega) hi), i32_s, q1]
        rfl)
    n 0 F 0 (by omega) (by omega) ⟨pos_0 hR h, fun j hj => by omega⟩
  have r1 : s_Mod_numberOf_L5 F mnow medg (i32 x) (i32 y) F (0 : Int32) (0 : Int32) = some r := r1
  unfold s_Mod_numberOf
  rw [r1]
  rcases r2 with ⟨b, w1, w2, w3, rfl⟩ | ⟨y, rfl, w⟩
  · exact ⟨i32 b, rfl, Or.inl ⟨b, w1, w2, w3, rfl⟩⟩
  · exact ⟨-1, rfl, Or.inr ⟨w, rfl⟩⟩
/-- the class's search for an edge -/
theorem c_edgeOf (hc : c ≤ 42) {el eh : Nat → Int32} (hE : EdR c f g el eh) (hfg : ∀ k, k < c → f k < 16 ∧ g k < 16) (F : Nat) (hF : 300 ≤ F) {x y : Nat} (hx : x < 16) (hy : y < 16) :
    ∃ r, s_Mesh_edgeOf F el eh (i32 c) (i32 x) (i32 y) = some r ∧ ((∃ k, k < c ∧ f k = min x y ∧ g k = max x y ∧ (∀ j, j < k → ¬ (f j = min x y ∧ g j = max x y)) ∧ r = i32 k) ∨ ((∀ k, k < c → ¬ (f k = min x y ∧ g k = max x y)) ∧ r = (-1 : Int32))) := by
  have i1 := imin_i (a := x) (b := y) (by omega) (by omega)
  have i2 := imax_i (a := x) (b := y) (by omega) (by omega)
  have lmin := Nat.min_le_left x y
  have lmax : max x y < 16 := by rcases Nat.le_total x y with q | q; · rw [Nat.max_eq_right q]; exact hy
                                 · rw [Nat.max_eq_left q]; exact hx
  have gt : ∀ i, i < c → s_Row_get 42 el (i32 i) = i32 (f i) ∧ s_Row_get 42 eh (i32 i) = i32 (g i) := fun i hi => by
    rw [rget el (by omega) (by omega), rget eh (by omega) (by omega)]; exact hE i hi
  have h := ff (fun k i => s_Mesh_edgeOf_L2 el eh (i32 c) (i32 x) (i32 y) k (i32 i)) c (fun k => f k = min x y ∧ g k = max x y) (fun k => Sum.inl (i32 k)) (Sum.inr (i32 c))
    (fun k => by simp only [s_Mesh_edgeOf_L2]; rw [if_pos (y_le (by omega) (by omega))])
    (fun k i hi h => by
      simp only [s_Mesh_edgeOf_L2, i1, i2, (gt i hi).1, (gt i hi).2]
      rw [if_neg (n_le (by omega) hi), if_pos (by rw [h.1]), if_pos (by rw [h.2])])
    (fun k i hi h => by
      have := hfg i hi
      simp only [s_Mesh_edgeOf_L2, i1, i2, (gt i hi).1, (gt i hi).2]
      rw [if_neg (n_le (by omega) hi), i32_s]
      by_cases z1 : f i = min x y
      · rw [if_pos (by rw [z1]), if_neg (n_eq (by omega) (by omega) (fun z2 => h ⟨z1, z2⟩))]
      · rw [if_neg (n_eq (by omega) (by omega) z1)])
    c 0 F (by omega) (by omega)
  unfold s_Mesh_edgeOf
  rcases h with ⟨j, _, h1, h2, h3, e⟩ | ⟨h1, e⟩
  · have e : s_Mesh_edgeOf_L2 el eh (i32 c) (i32 x) (i32 y) F (0 : Int32) = some (Sum.inl (i32 j)) := e
    rw [e]
    exact ⟨i32 j, rfl, Or.inl ⟨j, h1, h2.1, h2.2, fun k hk => h3 k (by omega) hk, rfl⟩⟩
  · have e : s_Mesh_edgeOf_L2 el eh (i32 c) (i32 x) (i32 y) F (0 : Int32) = some (Sum.inr (i32 c)) := e
    rw [e]
    exact ⟨-1, rfl, Or.inr ⟨fun k hk => h1 k (by omega) hk, rfl⟩⟩
end ASK2

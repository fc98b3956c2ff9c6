/-- a corner of a triangle -/
def cn (ta tb tc : Nat → Nat) (a k : Nat) : Nat := if k = 0 then ta a else if k = 1 then tb a else tc a
section ASK1
variable {n m : Nat} {X Y : Nat → Int} {L H : Nat → Nat} {pxs pys plo phi : Nat → Int32} {pn pm : Int32} {mnow : Nat → Int32}
variable {E : Nat → Nat → Prop} {c : Nat} {f g : Nat → Nat} {t : Nat} {ta tb tc : Nat → Nat} {T : Nat} {hp : Nat → Nat}
theorem cor_at {co : Nat → Int32} (h : CoR t ta tb tc co) {a k : Nat} (ha : a < t) (hk : k < 3) : co (3 * a + k) = i32 (cn ta tb tc a k) := by
  obtain ⟨h1, h2, h3⟩ := h a ha
  have : k = 0 ∨ k = 1 ∨ k = 2 := by omega
  rcases this with rfl | rfl | rfl
  · exact h1
  · exact h2
  · exact h3
theorem c_corner {co : Nat → Int32} (h : CoR t ta tb tc co) (ht : t ≤ 27) {a k : Nat} (ha : a < t) (hk : k < 3) : s_Mesh_cornerOf co (i32 a) (i32 k) = i32 (cn ta tb tc a k) := by
  unfold s_Mesh_cornerOf
  rw [show (3 : Int32) = i32 3 from rfl, i32_mul, i32_add, rget co (by omega) (by omega), cor_at h ha hk]
theorem c_cafter {co : Nat → Int32} (h : CoR t ta tb tc co) (ht : t ≤ 27) {a k : Nat} (ha : a < t) (hk : k < 3) : s_Mesh_cornerAfter co (i32 a) (i32 k) = i32 (cn ta tb tc a ((k + 1) % 3)) := by
  unfold s_Mesh_cornerAfter
  have : k = 0 ∨ k = 1 ∨ k = 2 := by omega
  rcases this with rfl | rfl | rfl
  · rw [if_neg (by decide), i32_s, c_corner h ht ha (by omega)]
  · rw [if_neg (by decide), i32_s, c_corner h ht ha (by omega)]
  · rw [if_pos (by decide)]
    exact c_corner h ht ha (show 0 < 3 by omega)
theorem m_corner {mcor : Nat → Int32} (h : CoR t ta tb tc mcor) (ht : t ≤ 27) {a k : Nat} (ha : a < t) (hk : k < 5) : s_Mod_cornerOf mcor (i32 a) (i32 k) = some (i32 (cn ta tb tc a (k % 3))) := by
  unfold s_Mod_cornerOf
  have e : i32 k - i32 k / (3 : Int32) * (3 : Int32) = i32 (k % 3) := by
    have : k = 0 ∨ k = 1 ∨ k = 2 ∨ k = 3 ∨ k = 4 := by omega
    rcases this with rfl | rfl | rfl | rfl | rfl <;> decide
  rw [e, show (3 : Int32) = i32 3 from rfl, i32_mul, i32_add, aget_i mcor (by omega) (by omega), cor_at h ha (by omega)]
  rfl
theorem cn_lt (G : Ge n (pt X Y) E) (D : TrD n (pt X Y) E t ta tb tc) {a k : Nat} (ha : a < t) : cn ta tb tc a k < n := by
  obtain ⟨h1, h2, h3, _⟩ := ap_lt G (D.2.1 a ha).1
  unfold cn
  by_cases k0 : k = 0
  · rw [if_pos k0]; exact h1
  · rw [if_neg k0]
    by_cases k1 : k = 1
    · rw [if_pos k1]; exact h2
    · rw [if_neg k1]; exact h3
/-- the rotations of a triangle -/
theorem cn_ap (D : TrD n (pt X Y) E t ta tb tc) {a k : Nat} (ha : a < t) (hk : k < 3) : Ap n (pt X Y) E (cn ta tb tc a k) (cn ta tb tc a ((k + 1) % 3)) (cn ta tb tc a ((k + 2) % 3)) := by
  have h := (D.2.1 a ha).1
  have : k = 0 ∨ k = 1 ∨ k = 2 := by omega
  rcases this with rfl | rfl | rfl
  · exact h
  · exact ap_rot h
  · exact ap_rot (ap_rot h)
/-- each triangle has its number -/
theorem tr_num (G : Ge n (pt X Y) E) (D : TrD n (pt X Y) E t ta tb tc) {u v w : Nat} (h : Ap n (pt X Y) E u v w) :
    ∃ k j, k < t ∧ j < 3 ∧ cn ta tb tc k j = u ∧ cn ta tb tc k ((j + 1) % 3) = v ∧ cn ta tb tc k ((j + 2) % 3) = w := by
  obtain ⟨_, _, _, uv, vw, wu⟩ := ap_lt G h
  have get : ∀ a b c, Ap n (pt X Y) E a b c → a < b → a < c → ∃ k, k < t ∧ ta k = a ∧ tb k = b ∧ tc k = c := by
    intro a b c hh h1 h2
    obtain ⟨k, q1, q2, q3⟩ := D.2.2.2.2 a b ⟨c, hh, h1, h2⟩
    refine ⟨k, q1, q2, q3, ?_⟩
    have := (D.2.1 k q1).1
    rw [q2, q3] at this
    exact ap_un G this hh
  by_cases c1 : u < v ∧ u < w
  · obtain ⟨k, q1, q2, q3, q4⟩ := get u v w h c1.1 c1.2
    exact ⟨k, 0, q1, by omega, q2, q3, q4⟩
  · by_cases c2 : v < w ∧ v < u
    · obtain ⟨k, q1, q2, q3, q4⟩ := get v w u (ap_rot h) c2.1 c2.2
      exact ⟨k, 2, q1, by omega, q4, q2, q3⟩
    · obtain ⟨k, q1, q2, q3, q4⟩ := get w u v (ap_rot (ap_rot h)) (by omega) (by omega)
      exact ⟨k, 1, q1, by omega, q3, q4, q2⟩
/-- a directed edge has one triangle -/
theorem tr_one (G : Ge n (pt X Y) E) (D : TrD n (pt X Y) E t ta tb tc) {a b i j : Nat} (ha : a < t) (hb : b < t) (hi : i < 3) (hj : j < 3)
    (h1 : cn ta tb tc a i = cn ta tb tc b j) (h2 : cn ta tb tc a ((i + 1) % 3) = cn ta tb tc b ((j + 1) % 3)) : a = b := by
  have A := cn_ap D ha hi
  have B := cn_ap D hb hj
  rw [h1, h2] at A
  have h3 := ap_un G A B
  have a1 := D.2.1 a ha
  have b1 := D.2.1 b hb
  have la := ap_lt G a1.1
  have lb := ap_lt G b1.1
  have ua := (D.2.2.1 a ha)
  have ub := (D.2.2.1 b hb)
  have l1 : ta a < tb a := by obtain ⟨w, _, q, _⟩ := ua; exact q
  have l2 : ta b < tb b := by obtain ⟨w, _, q, _⟩ := ub; exact q
  have e : ta a = ta b ∧ tb a = tb b := by
    have ci : i = 0 ∨ i = 1 ∨ i = 2 := by omega
    have cj : j = 0 ∨ j = 1 ∨ j = 2 := by omega
    rcases ci with rfl | rfl | rfl <;> rcases cj with rfl | rfl | rfl <;> simp [cn] at h1 h2 h3 <;> omega
  exact lst_inj D.2.2.2.1 a b ha hb e.1 e.2
theorem m_triOf (D : TrD n (pt X Y) E t ta tb tc) (hn : n ≤ 16) (G : Ge n (pt X Y) E) {mcor : Nat → Int32} (h : CoR t ta tb tc mcor) (F : Nat) (hF : 300 ≤ F) {x y z : Nat} (hx : x < 100) (hy : y < 100) (hz : z < 100) :
    ∃ r, s_Mod_triangleOf F mcor (i32 t) (i32 x) (i32 y) (i32 z) = some r ∧
      ((∃ k j, k < t ∧ j < 3 ∧ cn ta tb tc k j = x ∧ cn ta tb tc k ((j + 1) % 3) = y ∧ cn ta tb tc k ((j + 2) % 3) = z ∧ r = i32 k) ∨
        ((∀ k j, k < t → j < 3 → ¬ (cn ta tb tc k j = x ∧ cn ta tb tc k ((j + 1) % 3) = y ∧ cn ta tb tc k ((j + 2) % 3) = z)) ∧ r = (-1 : Int32))) := by
  have ht := D.1
  have inner := fun a (ha : a < t) => ffB (fun k j => s_Mod_triangleOf_L15 mcor (i32 x) (i32 y) (i32 z) (i32 a) k (i32 j)) 3
    (fun j => cn ta tb tc a j = x ∧ cn ta tb tc a ((j + 1) % 3) = y ∧ cn ta tb tc a ((j + 2) % 3) = z) (Sum.inl (i32 a)) (Sum.inr (i32 3))
    (fun k => by simp only [s_Mod_triangleOf_L15]; rw [if_pos (show (3 : Int32) ≤ i32 3 from y_le (a := 3) (by omega) (by omega))])
    (fun k j hj ⟨h1, h2, h3⟩ => by
      simp only [s_Mod_triangleOf_L15]
      rw [if_neg (show ¬ ((3 : Int32) ≤ i32 j) from n_le (a := 3) (by omega) hj), m_corner h ht ha (by omega), i32_s, m_corner h ht ha (by omega),
        show i32 j + (2 : Int32) = i32 (j + 2) from i32_add j 2, m_corner h ht ha (by omega)]
      simp only [Option.bind_some]
      rw [Nat.mod_eq_of_lt hj, if_pos (by rw [h1]), if_pos (by rw [h2]), if_pos (by rw [h3])])
    (fun k j hj hh => by
      have q := fun i => cn_lt (k := i) G D ha
      simp only [s_Mod_triangleOf_L15]
      rw [if_neg (show ¬ ((3 : Int32) ≤ i32 j) from n_le (a := 3) (by omega) hj), m_corner h ht ha (by omega), i32_s, m_corner h ht ha (by omega),
        show i32 j + (2 : Int32) = i32 (j + 2) from i32_add j 2, m_corner h ht ha (by omega)]
      simp only [Option.bind_some]
      rw [Nat.mod_eq_of_lt hj]
      have q1 := q j
      have q2 := q ((j + 1) % 3)
      have q3 := q ((j + 2) % 3)
      by_cases c1 : cn ta tb tc a j = x
      · rw [if_pos (by rw [c1])]
        by_cases c2 : cn ta tb tc a ((j + 1) % 3) = y
        · rw [if_pos (by rw [c2]), if_neg (n_eq (by omega) (by omega) (fun c3 => hh ⟨c1, c2, c3⟩))]
        · rw [if_neg (n_eq (by omega) (by omega) c2)]
      · rw [if_neg (n_eq (by omega) (by omega) c1)])
    0 F (by omega) (by omega)
  have hh := ff (fun k i => s_Mod_triangleOf_L3 F mcor (i32 t) (i32 x) (i32 y) (i32 z) k (i32 i)) t
    (fun a => ∃ j, j < 3 ∧ cn ta tb tc a j = x ∧ cn ta tb tc a ((j + 1) % 3) = y ∧ cn ta tb tc a ((j + 2) % 3) = z) (fun a => Sum.inl (i32 a)) (Sum.inr (i32 t))
    (fun k => by simp only [s_Mod_triangleOf_L3]; rw [if_pos (y_le (by omega) (by omega))])
    (fun k i hi ⟨j, q1, q2⟩ => by
      simp only [s_Mod_triangleOf_L3]
      rw [if_neg (n_le (by omega) hi)]
      rcases inner i hi with ⟨_, e⟩ | ⟨h1, e⟩
      · have e : s_Mod_triangleOf_L15 mcor (i32 x) (i32 y) (i32 z) (i32 i) F (0 : Int32) = some (Sum.inl (i32 i)) := e
        rw [e]; rfl
      · exact (h1 j (by omega) q1 q2).elim)
    (fun k i hi hno => by
      simp only [s_Mod_triangleOf_L3]
      rw [if_neg (n_le (by omega) hi)]
      rcases inner i hi with ⟨⟨j, _, q1, q2⟩, _⟩ | ⟨h1, e⟩
      · exact (hno ⟨j, q1, q2⟩).elim
      · have e : s_Mod_triangleOf_L15 mcor (i32 x) (i32 y) (i32 z) (i32 i) F (0 : Int32) = some (Sum.inr (i32 3)) := e
        rw [e, i32_s]; rfl)
    t 0 F (by omega) (by omega)
  unfold s_Mod_triangleOf
  rcases hh with ⟨a, _, h1, ⟨j, q1, q2, q3, q4⟩, _, e⟩ | ⟨h1, e⟩
  · have e : s_Mod_triangleOf_L3 F mcor (i32 t) (i32 x) (i32 y) (i32 z) F (0 : Int32) = some (Sum.inl (i32 a)) := e
    rw [e]
    exact ⟨i32 a, rfl, Or.inl ⟨a, j, h1, q1, q2, q3, q4, rfl⟩⟩
  · have e : s_Mod_triangleOf_L3 F mcor (i32 t) (i32 x) (i32 y) (i32 z) F (0 : Int32) = some (Sum.inr (i32 t)) := e
    rw [e]
    exact ⟨-1, rfl, Or.inr ⟨fun k j hk hj q => h1 k (by omega) hk ⟨j, hj, q⟩, rfl⟩⟩
/-- the triangle on the other side -/
theorem q_beyond (hM : MP n m X Y L H mnow) (hO : Ok n m X Y L H) (G : Ge n (pt X Y) E) (D : TrD n (pt X Y) E t ta tb tc) {medg mcor ow co : Nat → Int32} (hE : ME medg E) (h1 : CoR t ta tb tc mcor) (h2 : OwR t ta tb tc ow) (h3 : CoR t ta tb tc co)
    (F : Nat) (hF : 300 ≤ F) {a k : Nat} (ha : a < t) (hk : k < 3) :
    ∃ r, s_Mod_beyondOf F mnow medg mcor (i32 t) (i32 a) (i32 k) = some r ∧ s_Mesh_triangleAcross ow co (i32 a) (i32 k) = r ∧ (r = (-1 : Int32) ∨ ∃ b, b < t ∧ r = i32 b) := by
  have hn := hO.1
  have ht := D.1
  have A := cn_ap D ha hk
  have ge := G.2.2.1
  have u1 := cn_lt (k := k) G D ha
  have u2 := cn_lt (k := (k + 1) % 3) G D ha
  have e := (ge _ _ A.1).2.2.2
  obtain ⟨x, hx, ax⟩ := m_apex hM hO hE G F hF e
  have across : s_Mesh_triangleAcross ow co (i32 a) (i32 k) = ow (cn ta tb tc a ((k + 1) % 3) * 16 + cn ta tb tc a k) := by
    unfold s_Mesh_triangleAcross
    rw [c_cafter h3 ht ha hk, c_corner h3 ht ha hk, tget _ ow (by omega) (by omega)]
  unfold s_Mod_beyondOf
  rw [m_corner h1 ht ha (by omega), i32_s, m_corner h1 ht ha (by omega), Nat.mod_eq_of_lt hk]
  simp only [Option.bind_some]
  rw [hx]
  simp only [Option.bind_some]
  have cell : ∀ b, ((cn ta tb tc a ((k + 1) % 3) = ta b ∧ cn ta tb tc a k = tb b) ∨ (cn ta tb tc a ((k + 1) % 3) = tb b ∧ cn ta tb tc a k = tc b) ∨ (cn ta tb tc a ((k + 1) % 3) = tc b ∧ cn ta tb tc a k = ta b)) ↔
      ∃ j, j < 3 ∧ cn ta tb tc b j = cn ta tb tc a ((k + 1) % 3) ∧ cn ta tb tc b ((j + 1) % 3) = cn ta tb tc a k := by
    intro b
    constructor
    · rintro (⟨q1, q2⟩ | ⟨q1, q2⟩ | ⟨q1, q2⟩)
      · exact ⟨0, by omega, q1.symm, q2.symm⟩
      · exact ⟨1, by omega, q1.symm, q2.symm⟩
      · exact ⟨2, by omega, q1.symm, q2.symm⟩
    · rintro ⟨j, hj, q1, q2⟩
      have : j = 0 ∨ j = 1 ∨ j = 2 := by omega
      rcases this with rfl | rfl | rfl
      · exact Or.inl ⟨q1.symm, q2.symm⟩
      · exact Or.inr (Or.inl ⟨q1.symm, q2.symm⟩)
      · exact Or.inr (Or.inr ⟨q1.symm, q2.symm⟩)
  rcases ax with ⟨w, hw, rfl⟩ | ⟨hw, rfl⟩
  · have lw := (ap_lt G hw).2.2.1
    rw [if_pos (i32_nn (by omega))]
    obtain ⟨r, r1, r2⟩ := m_triOf D hn G h1 F hF (x := cn ta tb tc a ((k + 1) % 3)) (y := cn ta tb tc a k) (z := w) (by omega) (by omega) (by omega)
    rw [r1]
    obtain ⟨b, j, b1, b2, b3, b4, b5⟩ := tr_num G D hw
    have rb : r = i32 b := by
      rcases r2 with ⟨b', j', c1, c2, c3, c4, c5, c6⟩ | ⟨c1, _⟩
      · have := tr_one G D b1 c1 b2 c2 (by rw [b3, c3]) (by rw [b4, c4])
        rw [c6, this]
      · exact (c1 b j b1 b2 ⟨b3, b4, b5⟩).elim
    refine ⟨r, rfl, ?_, Or.inr ⟨b, b1, rb⟩⟩
    rw [across, rb]
    rcases h2 _ _ (show cn ta tb tc a ((k + 1) % 3) < 16 by omega) (show cn ta tb tc a k < 16 by omega) with ⟨b', c1, c2, c3⟩ | ⟨c1, _⟩
    · obtain ⟨j', d1, d2, d3⟩ := (cell b').1 c2
      have := tr_one G D b1 c1 b2 d1 (by rw [b3, d2]) (by rw [b4, d3])
      rw [c3, this]
    · exact (c1 b b1 ((cell b).2 ⟨j, b2, b3, b4⟩)).elim
  · rw [if_neg (by decide)]
    refine ⟨-1, rfl, ?_, Or.inl rfl⟩
    rw [across]
    rcases h2 _ _ (show cn ta tb tc a ((k + 1) % 3) < 16 by omega) (show cn ta tb tc a k < 16 by omega) with ⟨b', c1, c2, c3⟩ | ⟨_, c2⟩
    · obtain ⟨j', d1, d2, d3⟩ := (cell b').1 c2
      have := cn_ap D c1 d1
      rw [d2, d3] at this
      exact (hw _ this).elim
    · exact c2
end ASK1

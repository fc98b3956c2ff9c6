/-- two loops side by side -/
theorem lpTwo {S T O Q : Type} (g1 : Nat → Nat → S → Option O) (g2 : Nat → Nat → T → Option Q) (n : Nat) (I : Nat → S → T → Prop) (out1 : S → O) (out2 : T → Q)
    (stop1 : ∀ k s t, I n s t → g1 (k + 1) n s = some (out1 s)) (stop2 : ∀ k s t, I n s t → g2 (k + 1) n t = some (out2 t))
    (step : ∀ i s t, i < n → I i s t → ∃ s' t', I (i + 1) s' t' ∧ (∀ k, g1 (k + 1) i s = g1 k (i + 1) s') ∧ (∀ k, g2 (k + 1) i t = g2 k (i + 1) t')) :
    ∀ d i k1 k2 s t, i + d = n → d < k1 → d < k2 → I i s t → ∃ s' t', I n s' t' ∧ g1 k1 i s = some (out1 s') ∧ g2 k2 i t = some (out2 t') := by
  intro d
  induction d with
  | zero =>
    intro i k1 k2 s t h h1 h2 hi
    obtain ⟨k1, rfl⟩ : ∃ j, k1 = j + 1 := ⟨k1 - 1, by omega⟩
    obtain ⟨k2, rfl⟩ : ∃ j, k2 = j + 1 := ⟨k2 - 1, by omega⟩
    have : i = n := by omega
    subst this
    exact ⟨s, t, hi, stop1 k1 s t hi, stop2 k2 s t hi⟩
  | succ d ih =>
    intro i k1 k2 s t h h1 h2 hi
    obtain ⟨k1, rfl⟩ : ∃ j, k1 = j + 1 := ⟨k1 - 1, by omega⟩
    obtain ⟨k2, rfl⟩ : ∃ j, k2 = j + 1 := ⟨k2 - 1, by omega⟩
    obtain ⟨s', t', q1, q2, q3⟩ := step i s t (by omega) hi
    obtain ⟨s'', t'', q4, q5, q6⟩ := ih (i + 1) k1 k2 s' t' (by omega) (by omega) (by omega) q1
    exact ⟨s'', t'', q4, by rw [q2, q5], by rw [q3, q6]⟩
/-- the class's edges in a row, and its links -/
def GR (E : Nat → Nat → Prop) (lk el eh : Nat → Int32) (ne : Int32) : Prop :=
  ∃ (c : Nat) (f g : Nat → Nat), ne = i32 c ∧ c ≤ 42 ∧ (∀ k, k < c → el k = i32 (f k) ∧ eh k = i32 (g k)) ∧ (∀ k, k < c → E (f k) (g k) ∧ f k < g k) ∧
    (∀ k j, k < c → j < c → f k = f j → g k = g j → k = j) ∧ (∀ x y, E x y → ∃ k, k < c ∧ ((x = f k ∧ y = g k) ∨ (x = g k ∧ y = f k))) ∧ LK lk E
theorem lk_add {lk : Nat → Int32} {E : Nat → Nat → Prop} (h : LK lk E) {a b : Nat} (ha : a < 16) (hb : b < 16) : LK (s_Mesh_link lk (i32 a) (i32 b)) (Ad E a b) := by
  unfold s_Mesh_link
  rw [rget lk ha (by omega), rset lk _ ha (by omega), rget _ hb (by omega), rset _ _ hb (by omega)]
  intro x hx j hj
  show bt (if x = b then (if b = a then lk a ||| ((1 : Int32) <<< (i32 b &&& 31)) else lk b) ||| ((1 : Int32) <<< (i32 a &&& 31)) else if x = a then lk a ||| ((1 : Int32) <<< (i32 b &&& 31)) else lk x) j = _
  have h1 := h x hx j hj
  by_cases c1 : x = b
  · subst c1
    rw [if_pos rfl, b_bit _ (by omega)]
    by_cases c2 : x = a
    · subst c2
      rw [if_pos rfl, b_bit _ (by omega), h1]
      by_cases c3 : j = x
      · subst c3
        rw [dB_t (show Ad E j j j j from Or.inr (Or.inl ⟨rfl, rfl⟩))]; simp
      · rw [decide_eq_false c3, Bool.or_false, Bool.or_false]
        apply dB_cong
        constructor
        · exact Or.inl
        · rintro (z | ⟨_, z⟩ | ⟨_, z⟩)
          · exact z
          · exact (c3 z).elim
          · exact (c3 z).elim
    · rw [if_neg c2, h1]
      by_cases c3 : j = a
      · subst c3
        rw [dB_t (show Ad E j x x j from Or.inr (Or.inr ⟨rfl, rfl⟩))]; simp
      · rw [decide_eq_false c3, Bool.or_false]
        apply dB_cong
        constructor
        · exact Or.inl
        · rintro (z | ⟨z, _⟩ | ⟨_, z⟩)
          · exact z
          · exact (c2 z).elim
          · exact (c3 z).elim
  · rw [if_neg c1]
    by_cases c2 : x = a
    · subst c2
      rw [if_pos rfl, b_bit _ (by omega), h1]
      by_cases c3 : j = b
      · subst c3
        rw [dB_t (show Ad E x j x j from Or.inr (Or.inl ⟨rfl, rfl⟩))]; simp
      · rw [decide_eq_false c3, Bool.or_false]
        apply dB_cong
        constructor
        · exact Or.inl
        · rintro (z | ⟨_, z⟩ | ⟨z, _⟩)
          · exact z
          · exact (c3 z).elim
          · exact (c1 z).elim
    · rw [if_neg c2, h1]
      apply dB_cong
      constructor
      · exact Or.inl
      · rintro (z | ⟨z, _⟩ | ⟨z, _⟩)
        · exact z
        · exact (c2 z).elim
        · exact (c1 z).elim
theorem gr_adE {n : Nat} {P : Nat → Int × Int × Int} {E : Nat → Nat → Prop} (hn : n ≤ 16) (B : Bx n P) {a b : Nat} (G : Ge n P (Ad E a b)) (hab : a < b) (hb : b < n) (nE : ¬ E a b)
    (hs : ∀ x y, E x y → E y x) {lk el eh : Nat → Int32} {ne : Int32} (h : GR E lk el eh ne) :
    GR (Ad E a b) (s_Mesh_drawEdge lk el eh ne (i32 a) (i32 b)).1 (s_Mesh_drawEdge lk el eh ne (i32 a) (i32 b)).2.1
      (s_Mesh_drawEdge lk el eh ne (i32 a) (i32 b)).2.2.1 (s_Mesh_drawEdge lk el eh ne (i32 a) (i32 b)).2.2.2 := by
  obtain ⟨c, f, g, h1, h2, h3, h4, h5, h6, h7⟩ := h
  have e1 : ∀ k, k < c + 1 → Ad E a b (if k = c then a else f k) (if k = c then b else g k) ∧ (if k = c then a else f k) < (if k = c then b else g k) := by
    intro k hk
    by_cases q : k = c
    · rw [if_pos q, if_pos q]; exact ⟨Or.inr (Or.inl ⟨rfl, rfl⟩), hab⟩
    · rw [if_neg q, if_neg q]
      have := h4 k (by omega)
      exact ⟨Or.inl this.1, this.2⟩
  have e2 : ∀ k j, k < c + 1 → j < c + 1 → (if k = c then a else f k) = (if j = c then a else f j) → (if k = c then b else g k) = (if j = c then b else g j) → k = j := by
    intro k j hk hj q1 q2
    by_cases c1 : k = c
    · by_cases c2 : j = c
      · omega
      · rw [if_pos c1, if_neg c2] at q1 q2
        have := (h4 j (by omega)).1
        rw [← q1, ← q2] at this
        exact (nE this).elim
    · by_cases c2 : j = c
      · rw [if_neg c1, if_pos c2] at q1 q2
        have := (h4 k (by omega)).1
        rw [q1, q2] at this
        exact (nE this).elim
      · rw [if_neg c1, if_neg c2] at q1 q2
        exact h5 k j (by omega) (by omega) q1 q2
  have bd := row_bd hn G B (c + 1) _ _ e1 e2
  refine ⟨c + 1, fun k => if k = c then a else f k, fun k => if k = c then b else g k, ?_, bd, ?_, e1, e2, ?_, lk_add h7 (by omega) (by omega)⟩
  · show ne + 1 = _
    rw [h1, i32_s]
  · intro k hk
    show s_Row_set 42 el ne (i32 a) k = i32 (if k = c then a else f k) ∧ s_Row_set 42 eh ne (i32 b) k = i32 (if k = c then b else g k)
    rw [h1, rset el _ (by omega) (by omega), rset eh _ (by omega) (by omega)]
    show (if k = c then i32 a else el k) = _ ∧ (if k = c then i32 b else eh k) = _
    by_cases q : k = c
    · rw [if_pos q, if_pos q, if_pos q, if_pos q]; exact ⟨rfl, rfl⟩
    · rw [if_neg q, if_neg q, if_neg q, if_neg q]
      exact h3 k (by omega)
  · rintro x y (e | ⟨rfl, rfl⟩ | ⟨rfl, rfl⟩)
    · obtain ⟨k, q1, q2⟩ := h6 x y e
      refine ⟨k, by omega, ?_⟩
      show (x = (if k = c then a else f k) ∧ y = (if k = c then b else g k)) ∨ (x = (if k = c then b else g k) ∧ y = (if k = c then a else f k))
      rw [if_neg (show ¬ k = c by omega), if_neg (show ¬ k = c by omega)]; exact q2
    · refine ⟨c, by omega, Or.inl ?_⟩
      show x = (if c = c then x else f c) ∧ y = (if c = c then y else g c)
      rw [if_pos rfl, if_pos rfl]; exact ⟨rfl, rfl⟩
    · refine ⟨c, by omega, Or.inr ?_⟩
      show x = (if c = c then x else g c) ∧ y = (if c = c then y else f c)
      rw [if_pos rfl, if_pos rfl]; exact ⟨rfl, rfl⟩
/-- the first constraints -/
def CE (L H : Nat → Nat) (i x y : Nat) : Prop := ∃ c, c < i ∧ ((x = L c ∧ y = H c) ∨ (x = H c ∧ y = L c))
theorem ce_s (L H : Nat → Nat) (i : Nat) : CE L H (i + 1) = Ad (CE L H i) (L i) (H i) := by
  funext x y
  apply propext
  constructor
  · rintro ⟨c, h1, h2⟩
    by_cases q : c = i
    · subst q; exact Or.inr h2
    · exact Or.inl ⟨c, by omega, h2⟩
  · rintro (⟨c, h1, h2⟩ | h)
    · exact ⟨c, by omega, h2⟩
    · exact ⟨i, by omega, h⟩
theorem ce_ge {n m : Nat} {X Y : Nat → Int} {L H : Nat → Nat} (hO : Ok n m X Y L H) (i : Nat) (hi : i ≤ m) : Ge n (pt X Y) (CE L H i) := by
  obtain ⟨h1, h2, h3, h4, h5, h6, h7, h8⟩ := hO
  refine ⟨fun _ _ => rfl, h4, ?_, ?_, ?_⟩
  · rintro x y ⟨c, q1, ⟨rfl, rfl⟩ | ⟨rfl, rfl⟩⟩
    · have := h5 c (by omega)
      exact ⟨by omega, by omega, by omega, ⟨c, q1, Or.inr ⟨rfl, rfl⟩⟩⟩
    · have := h5 c (by omega)
      exact ⟨by omega, by omega, by omega, ⟨c, q1, Or.inl ⟨rfl, rfl⟩⟩⟩
  · rintro x y u v ⟨c, q1, ⟨rfl, rfl⟩ | ⟨rfl, rfl⟩⟩ ⟨d, q2, ⟨rfl, rfl⟩ | ⟨rfl, rfl⟩⟩ hx
    · exact (h8 c d (by omega) (by omega)).1 hx
    · exact (h8 c d (by omega) (by omega)).2 hx
    · exact (h8 c d (by omega) (by omega)).2 (xc_rv hx)
    · exact (h8 c d (by omega) (by omega)).1 (xc_rv hx)
  · rintro x y p ⟨c, q1, ⟨rfl, rfl⟩ | ⟨rfl, rfl⟩⟩ hp hx
    · exact h7 c p (by omega) hp hx
    · exact h7 c p (by omega) hp (cov_sw hx)
/-- whether a pair has room -/
def Rm (n : Nat) (P : Nat → Int × Int × Int) (E : Nat → Nat → Prop) (a b : Nat) : Prop :=
  ¬ E a b ∧ (∀ p, p < n → ¬ cov (P a) (P b) (P p)) ∧ ∀ u v, E u v → ¬ xc (P a) (P b) (P u) (P v)
/-- all pairs before (a, b) have been looked at -/
def Dn (n : Nat) (P : Nat → Int × Int × Int) (E : Nat → Nat → Prop) (a b : Nat) : Prop :=
  ∀ u v, u < v → v < n → (u < a ∨ (u = a ∧ v < b)) → ¬ Rm n P E u v
section GREEDY
variable {n m : Nat} {X Y : Nat → Int} {L H : Nat → Nat} {pxs pys plo phi : Nat → Int32} {pn pm : Int32} {mnow : Nat → Int32}
/-- what stands between the two sides while edges are drawn -/
def GI (n m : Nat) (X Y : Nat → Int) (L H : Nat → Nat) (E : Nat → Nat → Prop) (s : (Nat → Int32) × (Nat → Int32) × (Nat → Int32) × Int32) (t : Nat → Int32) : Prop :=
  Ge n (pt X Y) E ∧ (∀ c, c < m → E (L c) (H c)) ∧ GR E s.1 s.2.1 s.2.2.1 s.2.2.2 ∧ ME t E
theorem rm_pc {E : Nat → Nat → Prop} (G : Ge n (pt X Y) E) {a b : Nat} : (∀ u v, E u v → ¬ xc (pt X Y a) (pt X Y b) (pt X Y u) (pt X Y v)) ↔ ∀ u v, E u v → ¬ Pc (pt X Y) a b u v := by
  constructor
  · rintro h u v e (k | k)
    · exact h u v e k
    · exact h v u (G.2.2.1 u v e).2.2.2 k
  · intro h u v e k
    exact h u v e (Or.inl k)
/-- one pair, on both sides -/
theorem g_pair (hC : CP n m X Y L H pxs pys plo phi pn pm) (hM : MP n m X Y L H mnow) (hO : Ok n m X Y L H) (F : Nat) (hF : 300 ≤ F) {lf : Nat → Int32} (hL : LF n (pt X Y) lf)
    {a b : Nat} (hab : a < b) (hb : b < n) {E : Nat → Nat → Prop} {s : (Nat → Int32) × (Nat → Int32) × (Nat → Int32) × Int32} {t : Nat → Int32} (hI : GI n m X Y L H E s t) (hD : Dn n (pt X Y) E a b) :
    ∃ E' s' t', GI n m X Y L H E' s' t' ∧ Dn n (pt X Y) E' a (b + 1) ∧
      (∀ k, s_Mesh_drawSomeEdges_L84 F pxs pys pn lf (i32 a) (k + 1) (i32 b) s.1 s.2.1 s.2.2.1 s.2.2.2 = s_Mesh_drawSomeEdges_L84 F pxs pys pn lf (i32 a) k (i32 (b + 1)) s'.1 s'.2.1 s'.2.2.1 s'.2.2.2) ∧
      (∀ k, s_Mod_builds_L74 F mnow (i32 a) (k + 1) (i32 b) t = s_Mod_builds_L74 F mnow (i32 a) k (i32 (b + 1)) t') := by
  obtain ⟨G, hc, hG, hE⟩ := hI
  have hn := hO.1
  have ge := G.2.2.1
  have ha : a < n := by omega
  obtain ⟨cc, f, g, g1, g2, g3, g4, g5, g6, g7⟩ := hG
  have lkE := c_link g7 (show a < 16 by omega) (show b < 32 by omega)
  have cp := c_cp hC hO F hF ha hb
  rw [hC.1] at cp
  have crE := c_crE (lf := lf) (el := s.2.1) (eh := s.2.2.1) hn (fun _ _ => rfl) hL F hF ha hb g2 (fun k hk => by
    have q1 := g3 k hk
    have q2 := ge _ _ (g4 k hk).1
    exact ⟨q1.1, q1.2, q2.1, q2.2.1⟩)
  have mh := m_has hE (show a < 17 by omega) (show b < 17 by omega)
  have hp := m_hp hM hO F hF ha hb
  have ca := m_crAny hM hO hE F hF ha hb
  by_cases q1 : E a b
  · refine ⟨E, s, t, ⟨G, hc, ⟨cc, f, g, g1, g2, g3, g4, g5, g6, g7⟩, hE⟩, ?_, ?_, ?_⟩
    · intro u v huv hv h hr
      by_cases z : u = a ∧ v = b
      · obtain ⟨rfl, rfl⟩ := z; exact hr.1 q1
      · exact hD u v huv hv (by omega) hr
    · intro k
      simp only [s_Mesh_drawSomeEdges_L84, s_Plan_points, hC.1]
      rw [if_neg (n_le (by omega) hb), lkE, if_neg (bI_t q1), i32_s]
    · intro k
      simp only [s_Mod_builds_L74, m_n hM, Option.bind_some]
      rw [if_neg (n_le (by omega) hb), mh]
      simp only [Option.bind_some]
      rw [if_neg (bI_t q1), i32_s]
  by_cases q2 : ∃ p, p < n ∧ cov (pt X Y a) (pt X Y b) (pt X Y p)
  · refine ⟨E, s, t, ⟨G, hc, ⟨cc, f, g, g1, g2, g3, g4, g5, g6, g7⟩, hE⟩, ?_, ?_, ?_⟩
    · intro u v huv hv h hr
      by_cases z : u = a ∧ v = b
      · obtain ⟨rfl, rfl⟩ := z
        obtain ⟨p, z1, z2⟩ := q2
        exact hr.2.1 p z1 z2
      · exact hD u v huv hv (by omega) hr
    · intro k
      simp only [s_Mesh_drawSomeEdges_L84, s_Plan_points, hC.1]
      rw [if_neg (n_le (by omega) hb), lkE, if_pos (bI_f q1), cp]
      simp only [Option.bind_some]
      rw [if_neg (bI_t q2), i32_s]
    · intro k
      simp only [s_Mod_builds_L74, m_n hM, Option.bind_some]
      rw [if_neg (n_le (by omega) hb), mh]
      simp only [Option.bind_some]
      rw [if_pos (bI_f q1), hp]
      simp only [Option.bind_some]
      rw [if_neg (bI_t q2), i32_s]
  have nocov : ∀ p, p < n → ¬ cov (pt X Y a) (pt X Y b) (pt X Y p) := fun p h1 h2 => q2 ⟨p, h1, h2⟩
  have same1 : (∃ k, k < cc ∧ Pc (pt X Y) a b (f k) (g k)) ↔ ¬ ∀ u v, E u v → ¬ xc (pt X Y a) (pt X Y b) (pt X Y u) (pt X Y v) := by
    rw [rm_pc G]
    constructor
    · rintro ⟨k, h1, h2⟩ h
      exact h _ _ (g4 k h1).1 h2
    · intro h
      by_cases z : ∃ k, k < cc ∧ Pc (pt X Y) a b (f k) (g k)
      · exact z
      · exfalso
        apply h
        intro u v e hp
        obtain ⟨k, h1, ⟨rfl, rfl⟩ | ⟨rfl, rfl⟩⟩ := g6 u v e
        · exact z ⟨k, h1, hp⟩
        · exact z ⟨k, h1, hp.elim Or.inr Or.inl⟩
  have same2 : (∃ c d, c < d ∧ d < n ∧ E c d ∧ Cr (pt X Y) a b c d) ↔ ¬ ∀ u v, E u v → ¬ xc (pt X Y a) (pt X Y b) (pt X Y u) (pt X Y v) := by
    rw [rm_pc G]
    constructor
    · rintro ⟨c, d, h1, h2, h3, h4⟩ h
      rcases h4 with h4 | ⟨h4, h5, h6⟩
      · exact h c d h3 h4
      · obtain ⟨l1, l2, _, _⟩ := ge c d h3
        rcases h6 with ⟨z1, z2⟩ | z | z | z | z
        · have : c = a ∧ d = b := by
            rw [Nat.min_eq_left (by omega), Nat.min_eq_left (by omega)] at z1
            rw [Nat.max_eq_right (by omega), Nat.max_eq_right (by omega)] at z2
            exact ⟨z1.symm, z2.symm⟩
          obtain ⟨rfl, rfl⟩ := this
          exact q1 h3
        · exact nocov c l1 z
        · exact nocov d l2 z
        · exact G.2.2.2.2 c d a h3 ha z
        · exact G.2.2.2.2 c d b h3 hb z
    · intro h
      by_cases z : ∃ c d, c < d ∧ d < n ∧ E c d ∧ Cr (pt X Y) a b c d
      · exact z
      · exfalso
        apply h
        intro u v e hp
        obtain ⟨l1, l2, l3, l4⟩ := ge u v e
        by_cases o : u < v
        · exact z ⟨u, v, o, l2, e, Or.inl hp⟩
        · exact z ⟨v, u, by omega, l1, l4, Or.inl (hp.elim Or.inr Or.inl)⟩
  by_cases q3 : ∀ u v, E u v → ¬ xc (pt X Y a) (pt X Y b) (pt X Y u) (pt X Y v)
  · have G' := ad_ge G ha hb (by omega) nocov q3
    refine ⟨Ad E a b, s_Mesh_drawEdge s.1 s.2.1 s.2.2.1 s.2.2.2 (i32 a) (i32 b), fun j => if j = 17 * b + a then bI true else if j = 17 * a + b then bI true else t j,
      ⟨G', fun c h => Or.inl (hc c h), gr_adE hn hO.2.2.1 G' hab hb q1 (fun x y e => (ge x y e).2.2.2) ⟨cc, f, g, g1, g2, g3, g4, g5, g6, g7⟩, ?_⟩, ?_, ?_, ?_⟩
    · exact me_put hE (by omega) (by omega) true ⟨fun _ => rfl, fun _ => Or.inr (Or.inl ⟨rfl, rfl⟩)⟩ ⟨fun _ => rfl, fun _ => Or.inr (Or.inr ⟨rfl, rfl⟩)⟩
        (fun x y n1 n2 => ⟨fun z => z.elim id (fun z => z.elim (fun z => (n1 z).elim) (fun z => (n2 z).elim)), Or.inl⟩)
    · intro u v huv hv h hr
      by_cases z : u = a ∧ v = b
      · obtain ⟨rfl, rfl⟩ := z; exact hr.1 (Or.inr (Or.inl ⟨rfl, rfl⟩))
      · refine hD u v huv hv (by omega) ⟨fun e => hr.1 (Or.inl e), hr.2.1, fun x y e => hr.2.2 x y (Or.inl e)⟩
    · intro k
      simp only [s_Mesh_drawSomeEdges_L84, s_Plan_points, hC.1]
      rw [if_neg (n_le (by omega) hb), lkE, if_pos (bI_f q1), cp]
      simp only [Option.bind_some]
      rw [if_pos (bI_f q2), g1, crE]
      simp only [Option.bind_some]
      rw [if_pos (bI_f (fun z => same1.1 z q3)), i32_s]
    · intro k
      simp only [s_Mod_builds_L74, m_n hM, Option.bind_some]
      rw [if_neg (n_le (by omega) hb), mh]
      simp only [Option.bind_some]
      rw [if_pos (bI_f q1), hp]
      simp only [Option.bind_some]
      rw [if_pos (bI_f q2), ca]
      simp only [Option.bind_some]
      rw [if_pos (bI_f (fun z => same2.1 z q3)), m_puts t (by omega) (by omega)]
      simp only [Option.bind_some]
      rw [i32_s]
  · refine ⟨E, s, t, ⟨G, hc, ⟨cc, f, g, g1, g2, g3, g4, g5, g6, g7⟩, hE⟩, ?_, ?_, ?_⟩
    · intro u v huv hv h hr
      by_cases z : u = a ∧ v = b
      · obtain ⟨rfl, rfl⟩ := z; exact q3 hr.2.2
      · exact hD u v huv hv (by omega) hr
    · intro k
      simp only [s_Mesh_drawSomeEdges_L84, s_Plan_points, hC.1]
      rw [if_neg (n_le (by omega) hb), lkE, if_pos (bI_f q1), cp]
      simp only [Option.bind_some]
      rw [if_pos (bI_f q2), g1, crE]
      simp only [Option.bind_some]
      rw [if_neg (bI_t (same1.2 q3)), i32_s]
    · intro k
      simp only [s_Mod_builds_L74, m_n hM, Option.bind_some]
      rw [if_neg (n_le (by omega) hb), mh]
      simp only [Option.bind_some]
      rw [if_pos (bI_f q1), hp]
      simp only [Option.bind_some]
      rw [if_pos (bI_f q2), ca]
      simp only [Option.bind_some]
      rw [if_neg (bI_t (same2.2 q3)), i32_s]
end GREEDY

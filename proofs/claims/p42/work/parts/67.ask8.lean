section ASK8
variable {F n m : Nat} {X Y : Nat → Int} {L H : Nat → Nat} {pxs pys plo phi : Nat → Int32} {pn pm : Int32} {mnow : Nat → Int32}
variable {lf th ow lk el eh co hu : Nat → Int32} {ne nt nh : Int32} {medg mcor : Nat → Int32} {mtri : Int32} {xs : Nat → Int32} {fl : Nat → Int64} {x5 : Int32}
variable {E : Nat → Nat → Prop} {c : Nat} {f g : Nat → Nat}
theorem c_reach (hC : CP n m X Y L H pxs pys plo phi pn pm) (hO : Ok n m X Y L H) {a b p : Nat} (ha : a < n) (hb : b < n) (hp : p < n) :
    s_Mesh_reaches pxs pys (i32 a) (i32 b) (i32 p) = dB (Rch (pt X Y) a b p) := by
  have hn := hO.1
  have cv : s_Plan_covers pxs pys (i32 a) (i32 b) (s_Plan_xOf pxs (i32 p)) (s_Plan_yOf pys (i32 p)) = dB (cov (pt X Y a) (pt X Y b) (pt X Y p)) := c_covp hC hO ha hb hp
  unfold s_Mesh_reaches
  by_cases h1 : p = a
  · rw [if_pos (by rw [h1]), dB_t (show Rch (pt X Y) a b p from Or.inl h1)]
  rw [if_neg (fun z => h1 ((i32_eq (by omega) (by omega)).1 z))]
  by_cases h2 : p = b
  · rw [if_pos (by rw [h2]), dB_t (show Rch (pt X Y) a b p from Or.inr (Or.inl h2))]
  rw [if_neg (fun z => h2 ((i32_eq (by omega) (by omega)).1 z)), cv]
  by_cases h3 : cov (pt X Y a) (pt X Y b) (pt X Y p)
  · rw [if_neg (bI_t h3), dB_t (show Rch (pt X Y) a b p from Or.inr (Or.inr h3))]
  · rw [if_pos (bI_f h3), dB_f]
    rintro (z | z | z)
    · exact h1 z
    · exact h2 z
    · exact h3 z
theorem c_meets (hC : CP n m X Y L H pxs pys plo phi pn pm) (hO : Ok n m X Y L H) (G : Ge n (pt X Y) E) (hL : LF n (pt X Y) lf) (hE : EdR c f g el eh) (hc : c ≤ 42) (h : Lsa (fun u v => E u v ∧ u < v) c f g)
    {a b k : Nat} (ha : a < n) (hb : b < n) (hab : a ≠ b) (hk : k < c) :
    s_Mesh_edgeMeets pxs pys lf el eh (i32 k) (i32 a) (i32 b) = dB (Cr (pt X Y) a b (f k) (g k)) := by
  have hn := hO.1
  obtain ⟨q1, q2, q3, q4⟩ := fg_lt G h hk
  have r := cr_edge G ha hb hab q4 q3
  unfold s_Mesh_edgeMeets
  rw [rget el (by omega) (by omega), rget eh (by omega) (by omega), (hE k hk).1, (hE k hk).2, c_splits hn G.1 hL ha hb q1 q2, c_reach hC hO ha hb q1, c_reach hC hO ha hb q2]
  by_cases z1 : Pc (pt X Y) a b (f k) (g k)
  · rw [if_neg (bI_t z1), dB_t (r.1 (Or.inl z1))]
  rw [if_pos (bI_f z1)]
  by_cases z2 : Rch (pt X Y) a b (f k)
  · rw [if_neg (bI_t z2)]
    by_cases z3 : Rch (pt X Y) a b (g k)
    · rw [if_neg (bI_t z3), dB_t (r.1 (Or.inr ⟨z2, z3⟩))]
    · rw [if_pos (bI_f z3), dB_f]
      intro z
      rcases r.2 z with y | y
      · exact z1 y
      · exact z3 y.2
  · rw [if_pos (bI_f z2), dB_f]
    intro z
    rcases r.2 z with y | y
    · exact z1 y
    · exact z2 y.1
theorem sumr_s {Q : Nat → Prop} {k : Nat} : sumr (k + 1) (fun j => ind (Q j)) = sumr k (fun j => ind (Q j)) + ind (Q k) := rfl
theorem an_cross (cx : Cx F n m X Y L H pxs pys plo phi pn pm mnow (lf, th, ow, lk, el, eh, co, hu, ne, nt, nh) medg mcor) (mtri a0 a1 : Int32) :
    ∃ v thr r q, s_Mod_crossings F mnow medg mcor mtri a0 a1 = some (v, thr, r) ∧ s_Top_crossings F pxs pys pn lf el eh ne a0 a1 = some q ∧ An ["java/lang/IndexOutOfBoundsException", "java/lang/IllegalArgumentException"] q v thr := by
  obtain ⟨hF, hC, hM, hO, o, hb, E, c, f, g, t, ta, tb, tc, T, hp, D, K, B⟩ := cx
  obtain ⟨k1, k2, k3, k4, k5, k6, k7, k8, k9, k10⟩ := K
  have hc := D.2.2.1
  have hL := D.2.2.2.1
  have hn := hO.1
  have k8 : ne = i32 c := k8
  have w5 : EdR c f g el eh := k5
  have w1 : LF n (pt X Y) lf := k1
  have e := hC.1
  subst k8; subst e
  have hR : ∀ u v, E u v ∧ u < v → u < v ∧ v < n := fun u v h => ⟨h.2, (D.1.1.2.2.1 u v h.1).2.1⟩
  unfold s_Mod_crossings s_Top_crossings
  rw [m_isP hM hO, m_isP hM hO]
  simp only [Option.bind_some]
  by_cases h : ∃ a, a < n ∧ a0 = i32 a
  case neg => rw [if_pos (bI_f h), c_rpN hn h]; exact ⟨_, _, _, _, rfl, rfl, an_1 _ _ _⟩
  rw [if_neg (bI_t h)]
  obtain ⟨a, ha, rfl⟩ := h
  rw [c_rpY hn ha]
  simp only [Sum.elim_inr]
  by_cases h : ∃ a, a < n ∧ a1 = i32 a
  case neg => rw [if_pos (bI_f h), c_rpN hn h]; exact ⟨_, _, _, _, rfl, rfl, an_1 _ _ _⟩
  rw [if_neg (bI_t h)]
  obtain ⟨b, hbn, rfl⟩ := h
  rw [c_rpY hn hbn]
  simp only [Sum.elim_inr]
  unfold s_Top_requireDifferent
  by_cases hab : a = b
  · rw [if_pos (by rw [hab]), if_pos (by rw [hab])]
    exact ⟨_, _, _, _, rfl, rfl, an_2 _ _ _ _⟩
  rw [if_neg (fun z => hab ((i32_eq (by omega) (by omega)).1 z)), if_neg (fun z => hab ((i32_eq (by omega) (by omega)).1 z)), hb]
  simp only [Sum.elim_inr, Option.bind_some]
  have crs := lp (fun fu i (k : Nat) => s_Top_crossings_L21 pxs pys lf el eh (i32 c) (i32 a) (i32 b) fu (i32 k) (i32 i)) c (fun i k => k = sumr i (fun j => ind (Cr (pt X Y) a b (f j) (g j)))) (fun k => (i32 k, i32 c))
    (fun fu s _ => by simp only [s_Top_crossings_L21]; rw [if_pos (show s_Mesh_edges (i32 c) ≤ i32 c from y_le (by omega) (by omega))])
    (fun fu i s hi hs => by
      have mt := c_meets hC hO D.1.1 w1 w5 hc hL ha hbn hab hi
      by_cases z : Cr (pt X Y) a b (f i) (g i)
      · refine ⟨s + 1, by rw [sumr_s, ind_t z, hs], ?_⟩
        simp only [s_Top_crossings_L21, mt]
        rw [if_neg (show ¬ (s_Mesh_edges (i32 c) ≤ i32 i) from n_le (by omega) hi), if_neg (bI_t z), i32_s, i32_s]
      · refine ⟨s, by rw [sumr_s, ind_f z, hs]; rfl, ?_⟩
        simp only [s_Top_crossings_L21, mt]
        rw [if_neg (show ¬ (s_Mesh_edges (i32 c) ≤ i32 i) from n_le (by omega) hi), if_pos (bI_f z), i32_s])
    c 0 F 0 (by omega) (by omega) rfl
  obtain ⟨k1', c1, c2⟩ := crs
  have c2 : s_Top_crossings_L21 pxs pys lf el eh (i32 c) (i32 a) (i32 b) F (0 : Int32) (0 : Int32) = some (i32 k1', i32 c) := c2
  have inner : ∀ x k, x < n → Pos c f g k x (x + 1) → ∃ k', Pos c f g k' (x + 1) (x + 2) ∧
      s_Mod_crossings_L62 mnow o.1 (i32 a) (i32 b) (i32 x) F (i32 (sumr k (fun j => ind (Cr (pt X Y) a b (f j) (g j))))) (i32 (x + 1)) = some (i32 (sumr k' (fun j => ind (Cr (pt X Y) a b (f j) (g j)))), i32 n) := by
    intro x k hx hp
    obtain ⟨k', ⟨_, q1⟩, q2⟩ := lp (fun fu i (k : Nat) => s_Mod_crossings_L62 mnow o.1 (i32 a) (i32 b) (i32 x) fu (i32 (sumr k (fun j => ind (Cr (pt X Y) a b (f j) (g j))))) (i32 i)) n (fun i k => x < i ∧ Pos c f g k x i)
      (fun k => (i32 (sumr k (fun j => ind (Cr (pt X Y) a b (f j) (g j)))), i32 n))
      (fun fu s hs => by simp only [s_Mod_crossings_L62, m_n hM, Option.bind_some]; rw [if_pos (y_le (by omega) (by omega))])
      (fun fu i s hi ⟨hai, hs⟩ => by
        by_cases e : E x i
        · obtain ⟨q0, q1, q2, q⟩ := pos_hit hL hs ⟨e, hai⟩
          refine ⟨s + 1, ⟨by omega, q⟩, ?_⟩
          simp only [s_Mod_crossings_L62, m_n hM, Option.bind_some, m_has B.1 (show x < 17 by omega) (show i < 17 by omega), m_cross hM hO ha hbn hx hi]
          rw [if_neg (n_le (by omega) hi), if_neg (bI_t e), sumr_s, q1, q2]
          by_cases z : Cr (pt X Y) a b x i
          · rw [if_neg (bI_t z), ind_t z, i32_s, i32_s]
          · rw [if_pos (bI_f z), ind_f z, i32_s]; rfl
        · refine ⟨s, ⟨by omega, pos_miss hL hs (fun z => e z.1)⟩, ?_⟩
          simp only [s_Mod_crossings_L62, m_n hM, Option.bind_some, m_has B.1 (show x < 17 by omega) (show i < 17 by omega)]
          rw [if_neg (n_le (by omega) hi), if_pos (bI_f e), i32_s])
      (n - (x + 1)) (x + 1) F k (by omega) (by omega) ⟨by omega, hp⟩
    exact ⟨k', pos_row hR hL q1, q2⟩
  obtain ⟨k', q1, q2⟩ := lp (fun fu i (k : Nat) => s_Mod_crossings_L47 F mnow o.1 (i32 a) (i32 b) fu (i32 (sumr k (fun j => ind (Cr (pt X Y) a b (f j) (g j))))) (i32 i)) n (fun i k => Pos c f g k i (i + 1))
    (fun k => (i32 (sumr k (fun j => ind (Cr (pt X Y) a b (f j) (g j)))), i32 n))
    (fun fu s hs => by simp only [s_Mod_crossings_L47, m_n hM, Option.bind_some]; rw [if_pos (y_le (by omega) (by omega))])
    (fun fu i s hi hs => by
      obtain ⟨k', q1, q2⟩ := inner i s hi hs
      refine ⟨k', q1, ?_⟩
      simp only [s_Mod_crossings_L47, m_n hM, Option.bind_some]
      rw [if_neg (n_le (by omega) hi), i32_s, q2]
      simp only [Option.bind_some])
    n 0 F 0 (by omega) (by omega) (pos_0 hR hL)
  have := pos_end hR hL q1
  subst this
  have q2 : s_Mod_crossings_L47 F mnow o.1 (i32 a) (i32 b) F (0 : Int32) (0 : Int32) = some (i32 (sumr k' (fun j => ind (Cr (pt X Y) a b (f j) (g j)))), i32 n) := q2
  rw [c2, q2, c1]
  simp only [Option.bind_some]
  exact ⟨_, _, _, _, rfl, rfl, an_v _ _⟩
theorem k_34 (cx : Cx F n m X Y L H pxs pys plo phi pn pm mnow (lf, th, ow, lk, el, eh, co, hu, ne, nt, nh) medg mcor) : ∃ out, s_case_34 F xs pxs pys pn lf el eh ne mnow medg mcor mtri fl x5 = some out := by
  obtain ⟨v, thr, r, q, h1, h3, h2⟩ := an_cross cx mtri (xs (x5 + (1 : Int32)).toNatClampNeg) (xs (x5 + (2 : Int32)).toNatClampNeg)
  obtain ⟨fl', l1, l2⟩ := law2_an h2 (by decide) fl
  refine ⟨_, caseG _ (show s_Law_crossings F pxs pys pn lf el eh ne _ _ fl = some (thr, fl') from ?_) h1 l2⟩
  unfold s_Law_crossings
  rw [h3]; exact l1
end ASK8

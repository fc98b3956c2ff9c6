/-- how long an edge is, squared -/
def wl (X Y : Nat → Int) (a b : Nat) : Nat := (sqd (pt X Y a) (pt X Y b)).toNat
theorem wl_sy (X Y : Nat → Int) (a b : Nat) : wl X Y b a = wl X Y a b := by
  unfold wl
  congr 1
  simp only [sqd, pt]; grind
theorem r_i32 {x : Int32} {A K : Int} (h : R32 x A K) (h0 : 0 ≤ A) (hK : K < 2147483648) : x = i32 A.toNat := by
  have e := h.1
  have l := h.2.2
  rw [← Int32.toInt_inj, i32_ti (by omega), e]; omega
section ASK9
variable {F n m : Nat} {X Y : Nat → Int} {L H : Nat → Nat} {pxs pys plo phi : Nat → Int32} {pn pm : Int32} {mnow : Nat → Int32}
variable {lf th ow lk el eh co hu : Nat → Int32} {ne nt nh : Int32} {medg mcor : Nat → Int32} {mtri : Int32} {xs : Nat → Int32} {fl : Nat → Int64} {x5 : Int32}
variable {E : Nat → Nat → Prop} {c : Nat} {f g : Nat → Nat}
theorem wl_bd (hC : CP n m X Y L H pxs pys plo phi pn pm) (hO : Ok n m X Y L H) {a b : Nat} (ha : a < n) (hb : b < n) : wl X Y a b ≤ 80000 := by
  have h := (c_sqd hC hO ha hb).2.2
  unfold wl; omega
theorem c_len (hC : CP n m X Y L H pxs pys plo phi pn pm) (hO : Ok n m X Y L H) (G : Ge n (pt X Y) E) (hE : EdR c f g el eh) (hc : c ≤ 42) (h : Lsa (fun u v => E u v ∧ u < v) c f g) {k : Nat} (hk : k < c) :
    s_Mesh_lengthOf pxs pys el eh (i32 k) = i32 (wl X Y (f k) (g k)) := by
  obtain ⟨q1, q2, _, _⟩ := fg_lt G h hk
  unfold s_Mesh_lengthOf
  rw [rget el (by omega) (by omega), rget eh (by omega) (by omega), (hE k hk).1, (hE k hk).2]
  exact r_i32 (c_sqd hC hO q1 q2) (sqd_nn _ _) (by omega)
theorem m_sq (hM : MP n m X Y L H mnow) (hO : Ok n m X Y L H) {a b : Nat} (ha : a < n) (hb : b < n) : s_Mod_square mnow (i32 a) (i32 b) = some (i32 (wl X Y a b)) := by
  have hn := hO.1
  unfold s_Mod_square
  rw [m_x mnow (by omega), m_x mnow (by omega), m_y mnow (by omega), m_y mnow (by omega)]
  simp only [Option.bind_some]
  have e1 := r_sub (m_rx hM hO ha) (m_rx hM hO hb) (by omega)
  have e2 := r_sub (m_ry hM hO ha) (m_ry hM hO hb) (by omega)
  congr 1
  exact r_i32 (A := sqd (pt X Y a) (pt X Y b)) (r_add (r_mul e1 e1 (by omega)) (r_mul e2 e2 (by omega)) (by omega)) (sqd_nn _ _) (by omega)
/-- each edge stands in the list, one way or the other -/
theorem in_list (G : Ge n (pt X Y) E) (h : Lsa (fun u v => E u v ∧ u < v) c f g) {u v : Nat} (e : E u v) : ∃ k, k < c ∧ ((f k = u ∧ g k = v) ∨ (f k = v ∧ g k = u)) := by
  obtain ⟨_, _, ne, e2⟩ := G.2.2.1 u v e
  by_cases l : u < v
  · obtain ⟨k, h1, h2, h3⟩ := h.2.2 u v ⟨e, l⟩
    exact ⟨k, h1, Or.inl ⟨h2, h3⟩⟩
  · obtain ⟨k, h1, h2, h3⟩ := h.2.2 v u ⟨e2, by omega⟩
    exact ⟨k, h1, Or.inr ⟨h2, h3⟩⟩
theorem in_wl (G : Ge n (pt X Y) E) (h : Lsa (fun u v => E u v ∧ u < v) c f g) {u v : Nat} (e : E u v) : ∃ k, k < c ∧ wl X Y (f k) (g k) = wl X Y u v := by
  obtain ⟨k, h1, ⟨h2, h3⟩ | ⟨h2, h3⟩⟩ := in_list G h e
  · exact ⟨k, h1, by rw [h2, h3]⟩
  · exact ⟨k, h1, by rw [h2, h3, wl_sy]⟩
/-- the least of the edges' lengths, in the class -/
theorem c_least (hC : CP n m X Y L H pxs pys plo phi pn pm) (hO : Ok n m X Y L H) (hF : 300 ≤ F) (G : Ge n (pt X Y) E) (hE : EdR c f g el eh) (hc : c ≤ 42) (h : Lsa (fun u v => E u v ∧ u < v) c f g) (hp : 0 < c) :
    ∃ M, s_Mesh_leastLength F pxs pys el eh (i32 c) = some (i32 M) ∧ (∃ k, k < c ∧ M = wl X Y (f k) (g k)) ∧ ∀ k, k < c → M ≤ wl X Y (f k) (g k) := by
  have wb : ∀ k, k < c → wl X Y (f k) (g k) ≤ 80000 := fun k hk => by
    obtain ⟨q1, q2, _, _⟩ := fg_lt G h hk
    exact wl_bd hC hO q1 q2
  obtain ⟨M, ⟨m1, m2⟩, m3⟩ := lp (fun fu i (M : Nat) => s_Mesh_leastLength_L8 pxs pys el eh (i32 c) fu (i32 M) (i32 i)) c (fun i M => (∃ k, k < c ∧ M = wl X Y (f k) (g k)) ∧ ∀ k, k < i → M ≤ wl X Y (f k) (g k)) (fun M => (i32 M, i32 c))
    (fun fu s _ => by simp only [s_Mesh_leastLength_L8]; rw [if_pos (y_le (by omega) (by omega))])
    (fun fu i M hi ⟨⟨k, hk, h1⟩, h2⟩ => by
      have b1 := wb k hk
      have b2 := wb i hi
      refine ⟨min M (wl X Y (f i) (g i)), ⟨?_, ?_⟩, ?_⟩
      · by_cases z : M ≤ wl X Y (f i) (g i)
        · rw [Nat.min_eq_left z]; exact ⟨k, hk, h1⟩
        · rw [Nat.min_eq_right (by omega)]; exact ⟨i, hi, rfl⟩
      · intro j hj
        by_cases z : j = i
        · rw [z]; omega
        · have := h2 j (by omega); omega
      · simp only [s_Mesh_leastLength_L8, c_len hC hO G hE hc h hi]
        rw [if_neg (n_le (by omega) hi), imin_i (by omega) (by omega), i32_s])
    (c - 1) 1 F (wl X Y (f 0) (g 0)) (by omega) (by omega) ⟨⟨0, hp, rfl⟩, fun k hk => by
      have : k = 0 := by omega
      rw [this]; omega⟩
  refine ⟨M, ?_, m1, m2⟩
  unfold s_Mesh_leastLength
  rw [show s_Mesh_lengthOf pxs pys el eh (0 : Int32) = i32 (wl X Y (f 0) (g 0)) from c_len hC hO G hE hc h hp]
  have m3 : s_Mesh_leastLength_L8 pxs pys el eh (i32 c) F (i32 (wl X Y (f 0) (g 0))) (1 : Int32) = some (i32 M, i32 c) := m3
  rw [m3]; rfl
theorem c_most (hC : CP n m X Y L H pxs pys plo phi pn pm) (hO : Ok n m X Y L H) (hF : 300 ≤ F) (G : Ge n (pt X Y) E) (hE : EdR c f g el eh) (hc : c ≤ 42) (h : Lsa (fun u v => E u v ∧ u < v) c f g) (hp : 0 < c) :
    ∃ M, s_Mesh_greatestLength F pxs pys el eh (i32 c) = some (i32 M) ∧ (∃ k, k < c ∧ M = wl X Y (f k) (g k)) ∧ ∀ k, k < c → wl X Y (f k) (g k) ≤ M := by
  have wb : ∀ k, k < c → wl X Y (f k) (g k) ≤ 80000 := fun k hk => by
    obtain ⟨q1, q2, _, _⟩ := fg_lt G h hk
    exact wl_bd hC hO q1 q2
  obtain ⟨M, ⟨m1, m2⟩, m3⟩ := lp (fun fu i (M : Nat) => s_Mesh_greatestLength_L8 pxs pys el eh (i32 c) fu (i32 M) (i32 i)) c (fun i M => (∃ k, k < c ∧ M = wl X Y (f k) (g k)) ∧ ∀ k, k < i → wl X Y (f k) (g k) ≤ M) (fun M => (i32 M, i32 c))
    (fun fu s _ => by simp only [s_Mesh_greatestLength_L8]; rw [if_pos (y_le (by omega) (by omega))])
    (fun fu i M hi ⟨⟨k, hk, h1⟩, h2⟩ => by
      have b1 := wb k hk
      have b2 := wb i hi
      refine ⟨max M (wl X Y (f i) (g i)), ⟨?_, ?_⟩, ?_⟩
      · by_cases z : wl X Y (f i) (g i) ≤ M
        · rw [Nat.max_eq_left z]; exact ⟨k, hk, h1⟩
        · rw [Nat.max_eq_right (by omega)]; exact ⟨i, hi, rfl⟩
      · intro j hj
        by_cases z : j = i
        · rw [z]; omega
        · have := h2 j (by omega); omega
      · simp only [s_Mesh_greatestLength_L8, c_len hC hO G hE hc h hi]
        rw [if_neg (n_le (by omega) hi), imax_i (by omega) (by omega), i32_s])
    (c - 1) 1 F (wl X Y (f 0) (g 0)) (by omega) (by omega) ⟨⟨0, hp, rfl⟩, fun k hk => by
      have : k = 0 := by omega
      rw [this]; omega⟩
  refine ⟨M, ?_, m1, m2⟩
  unfold s_Mesh_greatestLength
  rw [show s_Mesh_lengthOf pxs pys el eh (0 : Int32) = i32 (wl X Y (f 0) (g 0)) from c_len hC hO G hE hc h hp]
  have m3 : s_Mesh_greatestLength_L8 pxs pys el eh (i32 c) F (i32 (wl X Y (f 0) (g 0))) (1 : Int32) = some (i32 M, i32 c) := m3
  rw [m3]; rfl
/-- a fold over all ordered pairs, in the reference -/
theorem m_fold (hM : MP n m X Y L H mnow) (hO : Ok n m X Y L H) (hC : CP n m X Y L H pxs pys plo phi pn pm) (hF : 300 ≤ F) (hE : ME medg E) (x1 : Int32) (M0 : Nat) (op : Nat → Nat → Nat) (I : Nat → Prop)
    (h0 : I M0) (hI : ∀ M a b, I M → a < n → b < n → E a b → I (op M (wl X Y a b)) ∧ (if x1 = 0 then imin (i32 M) (i32 (wl X Y a b)) else imax (i32 M) (i32 (wl X Y a b))) = i32 (op M (wl X Y a b)))
    (Q : Nat → Nat → Nat → Prop) (q1 : ∀ M a b, a < n → b < n → E a b → Q (op M (wl X Y a b)) a b) (q2 : ∀ M a b u v, I M → a < n → b < n → E a b → Q M u v → Q (op M (wl X Y a b)) u v) :
    ∃ M, s_Mod_squaredLength_L60 F mnow medg x1 F (i32 M0) (0 : Int32) = some (i32 M, i32 n) ∧ I M ∧ ∀ u v, u < n → v < n → E u v → Q M u v := by
  have hn := hO.1
  have inner : ∀ x M, x < n → I M → ∃ M', s_Mod_squaredLength_L71 mnow medg x1 (i32 x) F (i32 M) (0 : Int32) = some (i32 M', i32 n) ∧ I M' ∧ (∀ v, v < n → E x v → Q M' x v) ∧ ∀ u v, Q M u v → Q M' u v := by
    intro x M hx hM0
    obtain ⟨M', ⟨a1, a2, a3⟩, a4⟩ := lp (fun fu i (M : Nat) => s_Mod_squaredLength_L71 mnow medg x1 (i32 x) fu (i32 M) (i32 i)) n (fun i M' => I M' ∧ (∀ v, v < i → E x v → Q M' x v) ∧ ∀ u v, Q M u v → Q M' u v) (fun M => (i32 M, i32 n))
      (fun fu s _ => by simp only [s_Mod_squaredLength_L71, m_n hM, Option.bind_some]; rw [if_pos (y_le (by omega) (by omega))])
      (fun fu i s hi ⟨p1, p2, p3⟩ => by
        by_cases e : E x i
        · obtain ⟨r1, r2⟩ := hI s x i p1 hx hi e
          refine ⟨op s (wl X Y x i), ⟨r1, ?_, fun u v q => q2 s x i u v p1 hx hi e (p3 u v q)⟩, ?_⟩
          · intro v hv ev
            by_cases z : v = i
            · rw [z]; exact q1 s x i hx hi e
            · exact q2 s x i x v p1 hx hi e (p2 v (by omega) ev)
          · simp only [s_Mod_squaredLength_L71, m_n hM, Option.bind_some, m_has hE (show x < 17 by omega) (show i < 17 by omega), m_sq hM hO hx hi]
            rw [if_neg (n_le (by omega) hi), if_neg (bI_t e)]
            by_cases z : x1 = 0
            · rw [if_pos z] at r2
              rw [if_pos z, r2, i32_s]
            · rw [if_neg z] at r2
              rw [if_neg z, r2, i32_s]
        · refine ⟨s, ⟨p1, ?_, p3⟩, ?_⟩
          · intro v hv ev
            by_cases z : v = i
            · rw [z] at ev; exact (e ev).elim
            · exact p2 v (by omega) ev
          · simp only [s_Mod_squaredLength_L71, m_n hM, Option.bind_some, m_has hE (show x < 17 by omega) (show i < 17 by omega)]
            rw [if_neg (n_le (by omega) hi), if_pos (bI_f e), i32_s])
      n 0 F M (by omega) (by omega) ⟨hM0, fun v hv => by omega, fun _ _ q => q⟩
    exact ⟨M', a4, a1, a2, a3⟩
  obtain ⟨M', ⟨a1, a2⟩, a4⟩ := lp (fun fu i (M : Nat) => s_Mod_squaredLength_L60 F mnow medg x1 fu (i32 M) (i32 i)) n (fun i M' => I M' ∧ (∀ u v, u < i → v < n → E u v → Q M' u v)) (fun M => (i32 M, i32 n))
    (fun fu s _ => by simp only [s_Mod_squaredLength_L60, m_n hM, Option.bind_some]; rw [if_pos (y_le (by omega) (by omega))])
    (fun fu i s hi ⟨p1, p2⟩ => by
      obtain ⟨M', b1, b2, b3, b4⟩ := inner i s hi p1
      refine ⟨M', ⟨b2, ?_⟩, ?_⟩
      · intro u v hu hv e
        by_cases z : u = i
        · rw [z] at e; rw [z]; exact b3 v hv e
        · exact b4 u v (p2 u v (by omega) hv e)
      · simp only [s_Mod_squaredLength_L60, m_n hM, Option.bind_some]
        rw [if_neg (n_le (by omega) hi), b1, i32_s]
        simp only [Option.bind_some])
    n 0 F M0 (by omega) (by omega) ⟨h0, fun u v hu => by omega⟩
  exact ⟨M', a4, a1, fun u v hu hv e => a2 u v hu hv e⟩
theorem m_least (hM : MP n m X Y L H mnow) (hO : Ok n m X Y L H) (hC : CP n m X Y L H pxs pys plo phi pn pm) (hF : 300 ≤ F) (G : Ge n (pt X Y) E) (hE : ME medg E) {a b : Nat} (e : E a b) :
    ∃ M, s_Mod_squaredLength_L60 F mnow medg 0 F (2147483647 : Int32) (0 : Int32) = some (i32 M, i32 n) ∧ (∃ u v, E u v ∧ M = wl X Y u v) ∧ ∀ u v, E u v → M ≤ wl X Y u v := by
  obtain ⟨M, h1, h2, h3⟩ := m_fold (F := F) hM hO hC hF hE 0 2147483647 (fun M w => min M w) (fun M => M = 2147483647 ∨ ∃ u v, E u v ∧ M = wl X Y u v) (Or.inl rfl)
    (fun M a b hI ha hb e => by
      have wb := wl_bd hC hO ha hb
      have mb : M < 2147483648 := by
        rcases hI with z | ⟨u, v, z, y⟩
        · omega
        · obtain ⟨z1, z2, _⟩ := G.2.2.1 u v z
          have := wl_bd hC hO z1 z2; omega
      refine ⟨?_, by rw [if_pos rfl]; exact imin_i mb (by omega)⟩
      show min M (wl X Y a b) = 2147483647 ∨ ∃ u v, E u v ∧ min M (wl X Y a b) = wl X Y u v
      by_cases z : M ≤ wl X Y a b
      · rw [Nat.min_eq_left z]; exact hI
      · rw [Nat.min_eq_right (by omega)]; exact Or.inr ⟨a, b, e, rfl⟩)
    (fun M u v => M ≤ wl X Y u v) (fun M a b _ _ _ => by show min M (wl X Y a b) ≤ wl X Y a b; omega) (fun M a b u v _ _ _ _ q => by
      have q : M ≤ wl X Y u v := q
      show min M (wl X Y a b) ≤ wl X Y u v; omega)
  have h3 : ∀ u v, E u v → M ≤ wl X Y u v := fun u v e => by
    obtain ⟨z1, z2, _⟩ := G.2.2.1 u v e
    exact h3 u v z1 z2 e
  refine ⟨M, h1, ?_, h3⟩
  rcases h2 with z | z
  · obtain ⟨z1, z2, _⟩ := G.2.2.1 a b e
    have := wl_bd hC hO z1 z2
    have := h3 a b e
    omega
  · exact z
theorem m_most (hM : MP n m X Y L H mnow) (hO : Ok n m X Y L H) (hC : CP n m X Y L H pxs pys plo phi pn pm) (hF : 300 ≤ F) (G : Ge n (pt X Y) E) (hE : ME medg E) {a b : Nat} (e : E a b) (x1 : Int32) (hx : ¬ x1 = 0) :
    ∃ M, s_Mod_squaredLength_L60 F mnow medg x1 F (0 : Int32) (0 : Int32) = some (i32 M, i32 n) ∧ (∃ u v, E u v ∧ M = wl X Y u v) ∧ ∀ u v, E u v → wl X Y u v ≤ M := by
  obtain ⟨M, h1, h2, h3⟩ := m_fold (F := F) hM hO hC hF hE x1 0 (fun M w => max M w) (fun M => M = 0 ∨ ∃ u v, E u v ∧ M = wl X Y u v) (Or.inl rfl)
    (fun M a b hI ha hb e => by
      have wb := wl_bd hC hO ha hb
      have mb : M < 2147483648 := by
        rcases hI with z | ⟨u, v, z, y⟩
        · omega
        · obtain ⟨z1, z2, _⟩ := G.2.2.1 u v z
          have := wl_bd hC hO z1 z2; omega
      refine ⟨?_, by rw [if_neg hx]; exact imax_i mb (by omega)⟩
      show max M (wl X Y a b) = 0 ∨ ∃ u v, E u v ∧ max M (wl X Y a b) = wl X Y u v
      by_cases z : wl X Y a b ≤ M
      · rw [Nat.max_eq_left z]; exact hI
      · rw [Nat.max_eq_right (by omega)]; exact Or.inr ⟨a, b, e, rfl⟩)
    (fun M u v => wl X Y u v ≤ M) (fun M a b _ _ _ => by show wl X Y a b ≤ max M (wl X Y a b); omega) (fun M a b u v _ _ _ _ q => by
      have q : wl X Y u v ≤ M := q
      show wl X Y u v ≤ max M (wl X Y a b); omega)
  have h3 : ∀ u v, E u v → wl X Y u v ≤ M := fun u v e => by
    obtain ⟨z1, z2, _⟩ := G.2.2.1 u v e
    exact h3 u v z1 z2 e
  refine ⟨M, h1, ?_, h3⟩
  rcases h2 with z | z
  · exact ⟨a, b, e, by have := h3 a b e; omega⟩
  · exact z
end ASK9

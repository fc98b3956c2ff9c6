section ASK6
variable {F n m : Nat} {X Y : Nat → Int} {L H : Nat → Nat} {pxs pys plo phi : Nat → Int32} {pn pm : Int32} {mnow : Nat → Int32}
variable {lf th ow lk el eh co hu : Nat → Int32} {ne nt nh : Int32} {medg mcor : Nat → Int32} {mtri : Int32} {xs : Nat → Int32} {fl : Nat → Int64} {x5 : Int32}
variable {E : Nat → Nat → Prop} {c : Nat} {f g : Nat → Nat} {t : Nat} {ta tb tc : Nat → Nat}
theorem c_isco (a0 : Int32) : s_Top_isCoordinate a0 = dB (∃ k, k < 101 ∧ a0 = i32 k) := by
  unfold s_Top_isCoordinate
  rcases rng 101 (by omega) a0 with ⟨k, h1, rfl⟩ | ⟨h, w | ⟨w1, w2⟩⟩
  · rw [if_neg (i32_neg (by omega)), if_neg (show ¬ ((100 : Int32) < i32 k) from n_lt (a := 100) (by omega) (by omega)), dB_t ⟨k, h1, rfl⟩]
  · rw [if_pos w, dB_f h]
  · rw [if_neg w1, if_pos, dB_f h]
    rw [Int32.le_iff_toInt_le, i32_ti (by omega)] at w2
    rw [Int32.lt_iff_toInt_lt]
    have : (100 : Int32).toInt = 100 := by decide
    omega
theorem m_in100 (a0 : Int32) : s_Mod_in a0 (0 : Int32) (100 : Int32) = dB (∃ k, k < 101 ∧ a0 = i32 k) := by
  have := m_in 101 (by omega) a0
  rw [show i32 101 - (1 : Int32) = 100 from by decide] at this
  exact this
theorem c_rpos {a0 a1 : Int32} : (∃ P Q, P < 101 ∧ Q < 101 ∧ a0 = i32 P ∧ a1 = i32 Q ∧ s_Top_requirePosition a0 a1 = .inr () ∧ s_Mod_isPlace a0 a1 = true) ∨
    (s_Top_requirePosition a0 a1 = .inl "java/lang/IllegalArgumentException" ∧ s_Mod_isPlace a0 a1 = false) := by
  unfold s_Top_requirePosition s_Mod_isPlace
  rw [c_isco, c_isco, m_in100, m_in100]
  by_cases h : ∃ k, k < 101 ∧ a0 = i32 k
  · by_cases k : ∃ k, k < 101 ∧ a1 = i32 k
    · obtain ⟨P, p1, p2⟩ := h
      obtain ⟨Q, q1, q2⟩ := k
      left
      refine ⟨P, Q, p1, q1, p2, q2, ?_, ?_⟩
      · rw [if_neg (bI_t ⟨P, p1, p2⟩), if_neg (bI_t ⟨Q, q1, q2⟩)]
      · rw [if_neg (bI_t ⟨P, p1, p2⟩), if_neg (bI_t ⟨Q, q1, q2⟩)]
    · right
      rw [if_neg (bI_t h), if_pos (bI_f k), if_neg (bI_t h), if_pos (bI_f k)]; exact ⟨rfl, rfl⟩
  · right
    rw [if_pos (bI_f h), if_pos (bI_f h)]; exact ⟨rfl, rfl⟩
theorem i32_r {P : Nat} (h : P < 101) : R32 (i32 P) (P : Int) 100 := ⟨i32_ti (by omega), by omega, by omega⟩
/-- a position that a point has, as the class looks for it -/
theorem c_ptAt (hC : CP n m X Y L H pxs pys plo phi pn pm) (hO : Ok n m X Y L H) (hF : 300 ≤ F) {x y : Int32} {P Q : Int} (hx : R32 x P 100) (hy : R32 y Q 100) :
    ∃ r, s_Plan_pointAt F pxs pys pn x y = some r ∧ ((∃ p, p < n ∧ X p = P ∧ Y p = Q ∧ r = i32 p) ∨ ((∀ p, p < n → ¬ (X p = P ∧ Y p = Q)) ∧ r = (-1 : Int32))) := by
  have hn := hO.1
  have ex : ∀ i, i < n → (s_Row_get 16 pxs (i32 i) = x ↔ X i = P) := fun i hi => by rw [← Int32.toInt_inj, (c_rx hC hO hi).1, hx.1]
  have ey : ∀ i, i < n → (s_Row_get 16 pys (i32 i) = y ↔ Y i = Q) := fun i hi => by rw [← Int32.toInt_inj, (c_ry hC hO hi).1, hy.1]
  have h := ff (fun k i => s_Plan_pointAt_L2 pxs pys pn x y k (i32 i)) n (fun p => X p = P ∧ Y p = Q) (fun p => Sum.inl (i32 p)) (Sum.inr (i32 n))
    (fun k => by simp only [s_Plan_pointAt_L2, hC.1]; rw [if_pos (y_le (by omega) (by omega))])
    (fun k i hi h => by
      simp only [s_Plan_pointAt_L2, hC.1]
      rw [if_neg (n_le (by omega) hi), if_pos ((ex i hi).2 h.1), if_pos ((ey i hi).2 h.2)])
    (fun k i hi h => by
      simp only [s_Plan_pointAt_L2, hC.1]
      rw [if_neg (n_le (by omega) hi), i32_s]
      by_cases z : X i = P
      · rw [if_pos ((ex i hi).2 z), if_neg (fun w => h ⟨z, (ey i hi).1 w⟩)]
      · rw [if_neg (fun w => z ((ex i hi).1 w))])
    n 0 F (by omega) (by omega)
  unfold s_Plan_pointAt
  rcases h with ⟨j, _, h1, h2, _, e⟩ | ⟨h1, e⟩
  · have e : s_Plan_pointAt_L2 pxs pys pn x y F (0 : Int32) = some (Sum.inl (i32 j)) := e
    rw [e]
    exact ⟨i32 j, rfl, Or.inl ⟨j, h1, h2.1, h2.2, rfl⟩⟩
  · have e : s_Plan_pointAt_L2 pxs pys pn x y F (0 : Int32) = some (Sum.inr (i32 n)) := e
    rw [e]
    exact ⟨-1, rfl, Or.inr ⟨fun p hp => h1 p (by omega) hp, rfl⟩⟩
theorem pt_one (hO : Ok n m X Y L H) {p q : Nat} (hp : p < n) (hq : q < n) (h1 : X p = X q) (h2 : Y p = Y q) : p = q :=
  hO.2.2.2.1 p q hp hq (by unfold pt; rw [h1, h2])
/-- the side of a triangle that a position lies beyond, on both sides -/
theorem q_exit (hC : CP n m X Y L H pxs pys plo phi pn pm) (hM : MP n m X Y L H mnow) (hO : Ok n m X Y L H) (hF : 300 ≤ F) (G : Ge n (pt X Y) E) (D : TrD n (pt X Y) E t ta tb tc) (h1 : CoR t ta tb tc mcor) (h2 : CoR t ta tb tc co) {x y : Int32} {P Q : Int} (hx : R32 x P 100) (hy : R32 y Q 100) {a : Nat} (ha : a < t) :
    ∃ r, s_Mod_away F mnow mcor (i32 a) x y = some r ∧ s_Mesh_exitTowards F pxs pys co (i32 a) x y = some r ∧ (r = (-1 : Int32) ∨ ∃ k, k < 3 ∧ r = i32 k) := by
  have hn := hO.1
  have ht := D.1
  have lt := fun k => cn_lt (k := k) G D ha
  have cls := ff (fun fu k => s_Mesh_exitTowards_L3 pxs pys co (i32 a) x y fu (i32 k)) 3 (fun k => dt (pt X Y (cn ta tb tc a k)) (pt X Y (cn ta tb tc a ((k + 1) % 3))) (P, Q, 1) < 0) (fun k => Sum.inl (i32 k)) (Sum.inr (i32 3))
    (fun fu => by simp only [s_Mesh_exitTowards_L3]; rw [if_pos (show (3 : Int32) ≤ i32 3 from y_le (a := 3) (by omega) (by omega))])
    (fun fu k hk h => by
      have r := (c_tsa hC hO (lt k) (lt ((k + 1) % 3)) hx hy).1
      simp only [s_Mesh_exitTowards_L3]
      rw [if_neg (show ¬ ((3 : Int32) ≤ i32 k) from n_le (a := 3) (by omega) hk), c_corner h2 ht ha hk, c_cafter h2 ht ha hk, if_neg (fun z => by rw [Int32.le_iff_toInt_le, r, Int32.toInt_zero] at z; omega)])
    (fun fu k hk h => by
      have r := (c_tsa hC hO (lt k) (lt ((k + 1) % 3)) hx hy).1
      simp only [s_Mesh_exitTowards_L3]
      rw [if_neg (show ¬ ((3 : Int32) ≤ i32 k) from n_le (a := 3) (by omega) hk), c_corner h2 ht ha hk, c_cafter h2 ht ha hk, if_pos (by rw [Int32.le_iff_toInt_le, r, Int32.toInt_zero]; omega), i32_s])
    3 0 F (by omega) (by omega)
  have mdl := ff (fun fu k => s_Mod_away_L3 mnow mcor (i32 a) x y fu (i32 k)) 3 (fun k => dt (pt X Y (cn ta tb tc a k)) (pt X Y (cn ta tb tc a ((k + 1) % 3))) (P, Q, 1) < 0) (fun k => Sum.inl (i32 k)) (Sum.inr (i32 3))
    (fun fu => by simp only [s_Mod_away_L3]; rw [if_pos (show (3 : Int32) ≤ i32 3 from y_le (a := 3) (by omega) (by omega))])
    (fun fu k hk h => by
      have l1 := lt k
      have l2 := lt ((k + 1) % 3)
      have r : s_Mod_turnOf (mnow (2 + cn ta tb tc a k)) (mnow (19 + cn ta tb tc a k)) (mnow (2 + cn ta tb tc a ((k + 1) % 3))) (mnow (19 + cn ta tb tc a ((k + 1) % 3))) x y = sg (dt (pt X Y (cn ta tb tc a k)) (pt X Y (cn ta tb tc a ((k + 1) % 3))) (P, Q, 1)) := m_tof (m_rx hM hO l1) (m_ry hM hO l1) (m_rx hM hO l2) (m_ry hM hO l2) hx hy
      simp only [s_Mod_away_L3]
      rw [if_neg (show ¬ ((3 : Int32) ≤ i32 k) from n_le (a := 3) (by omega) hk), i32_s, m_corner h1 ht ha (by omega), m_corner h1 ht ha (by omega), Nat.mod_eq_of_lt hk]
      simp only [Option.bind_some]
      rw [m_x mnow (by omega), m_y mnow (by omega), m_x mnow (by omega), m_y mnow (by omega)]
      simp only [Option.bind_some, r]
      rw [if_neg (fun z => by have := (sg_ge _).1 z; omega)])
    (fun fu k hk h => by
      have l1 := lt k
      have l2 := lt ((k + 1) % 3)
      have r : s_Mod_turnOf (mnow (2 + cn ta tb tc a k)) (mnow (19 + cn ta tb tc a k)) (mnow (2 + cn ta tb tc a ((k + 1) % 3))) (mnow (19 + cn ta tb tc a ((k + 1) % 3))) x y = sg (dt (pt X Y (cn ta tb tc a k)) (pt X Y (cn ta tb tc a ((k + 1) % 3))) (P, Q, 1)) := m_tof (m_rx hM hO l1) (m_ry hM hO l1) (m_rx hM hO l2) (m_ry hM hO l2) hx hy
      simp only [s_Mod_away_L3]
      rw [if_neg (show ¬ ((3 : Int32) ≤ i32 k) from n_le (a := 3) (by omega) hk), i32_s, m_corner h1 ht ha (by omega), m_corner h1 ht ha (by omega), Nat.mod_eq_of_lt hk]
      simp only [Option.bind_some]
      rw [m_x mnow (by omega), m_y mnow (by omega), m_x mnow (by omega), m_y mnow (by omega)]
      simp only [Option.bind_some, r]
      rw [if_pos ((sg_ge _).2 (by omega))])
    3 0 F (by omega) (by omega)
  unfold s_Mod_away s_Mesh_exitTowards
  rcases cls with ⟨j, _, a1, a2, a3, e1⟩ | ⟨a1, e1⟩ <;> rcases mdl with ⟨k, _, b1, b2, b3, e2⟩ | ⟨b1, e2⟩
  · have jk : j = k := by
      rcases Nat.lt_trichotomy j k with z | z | z
      · exact (b3 j (by omega) z a2).elim
      · exact z
      · exact (a3 k (by omega) z b2).elim
    subst jk
    have e1 : s_Mesh_exitTowards_L3 pxs pys co (i32 a) x y F (0 : Int32) = some (Sum.inl (i32 j)) := e1
    have e2 : s_Mod_away_L3 mnow mcor (i32 a) x y F (0 : Int32) = some (Sum.inl (i32 j)) := e2
    rw [e1, e2]
    exact ⟨i32 j, rfl, rfl, Or.inr ⟨j, a1, rfl⟩⟩
  · exact (b1 j (by omega) a1 a2).elim
  · exact (a1 k (by omega) b1 b2).elim
  · have e1 : s_Mesh_exitTowards_L3 pxs pys co (i32 a) x y F (0 : Int32) = some (Sum.inr (i32 3)) := e1
    have e2 : s_Mod_away_L3 mnow mcor (i32 a) x y F (0 : Int32) = some (Sum.inr (i32 3)) := e2
    rw [e1, e2]
    exact ⟨-1, rfl, rfl, Or.inl rfl⟩
/-- where a position is: its kind and number -/
theorem q_where (cx : Cx F n m X Y L H pxs pys plo phi pn pm mnow (lf, th, ow, lk, el, eh, co, hu, ne, nt, nh) medg mcor) {P Q : Nat} (hP : P < 101) (hQ : Q < 101) :
    ∃ K i r, s_Mod_thingAt F mnow medg mcor (i32 P) (i32 Q) = some (i32 (10000 * K + i), r) ∧ i < 1000 ∧ K < 4 ∧ (K = 0 → i = 0) ∧ s_Top_kindOf F pxs pys pn el eh co ne nt (i32 P) (i32 Q) = some (i32 K) ∧
      (K = 1 → s_Plan_pointAt F pxs pys pn (i32 P) (i32 Q) = some (i32 i)) ∧ (K = 2 → s_Mesh_edgeAt F pxs pys el eh ne (i32 P) (i32 Q) = some (i32 i)) ∧ (K = 3 → s_Mesh_triangleAt F pxs pys co nt (i32 P) (i32 Q) = some (i32 i)) := by
  obtain ⟨hF, hC, hM, hO, o, hb, E, c, f, g, t, ta, tb, tc, T, hp, D, K, B⟩ := cx
  obtain ⟨k1, k2, k3, k4, k5, k6, k7, k8, k9, k10⟩ := K
  have hn := hO.1
  have hc := D.2.2.1
  have hL := D.2.2.2.1
  have ht := D.2.2.2.2.1.1
  have w5 : EdR c f g el eh := k5
  have w6 : CoR t ta tb tc co := k6
  have k8 : ne = i32 c := k8
  have k9 : nt = i32 t := k9
  subst k8; subst k9
  have hx := i32_r hP
  have hy := i32_r hQ
  have hR : ∀ u v, E u v ∧ u < v → u < v ∧ v < n := fun u v h => ⟨h.2, (D.1.1.2.2.1 u v h.1).2.1⟩
  obtain ⟨pr, p1, p2⟩ := c_ptAt hC hO hF hx hy
  -- the reference's points
  have mp := ff (fun fu i => s_Mod_thingAt_L6 mnow o.1 o.2.1 o.2.2 (i32 P) (i32 Q) fu (i32 i)) n (fun p => X p = P ∧ Y p = Q) (fun p => Sum.inl (i32 (10000 + p), o.1, o.2.1, o.2.2)) (Sum.inr (i32 n))
    (fun k => by simp only [s_Mod_thingAt_L6, m_n hM, Option.bind_some]; rw [if_pos (y_le (by omega) (by omega))])
    (fun k i hi h => by
      simp only [s_Mod_thingAt_L6, m_n hM, Option.bind_some]
      rw [if_neg (n_le (by omega) hi), m_x mnow (by omega), m_y mnow (by omega)]
      simp only [Option.bind_some]
      rw [if_pos (by rw [← Int32.toInt_inj, (m_rx hM hO hi).1, hx.1]; exact h.1), if_pos (by rw [← Int32.toInt_inj, (m_ry hM hO hi).1, hy.1]; exact h.2),
        show (10000 : Int32) = i32 10000 from rfl, i32_add])
    (fun k i hi h => by
      simp only [s_Mod_thingAt_L6, m_n hM, Option.bind_some]
      rw [if_neg (n_le (by omega) hi), m_x mnow (by omega), m_y mnow (by omega)]
      simp only [Option.bind_some]
      rw [i32_s]
      by_cases z : X i = P
      · rw [if_pos (by rw [← Int32.toInt_inj, (m_rx hM hO hi).1, hx.1]; exact z), if_neg (fun w => h ⟨z, by rw [← Int32.toInt_inj, (m_ry hM hO hi).1, hy.1] at w; exact w⟩)]
      · rw [if_neg (fun w => z (by rw [← Int32.toInt_inj, (m_rx hM hO hi).1, hx.1] at w; exact w))])
    n 0 F (by omega) (by omega)
  unfold s_Mod_thingAt s_Top_kindOf
  rw [hb, p1]
  simp only [Option.bind_some]
  rcases p2 with ⟨p, a1, a2, a3, rfl⟩ | ⟨a1, rfl⟩
  · rcases mp with ⟨q, _, b1, b2, _, e⟩ | ⟨b1, _⟩
    · have pq := pt_one hO a1 b1 (by rw [a2, b2.1]) (by rw [a3, b2.2])
      subst pq
      have e : s_Mod_thingAt_L6 mnow o.1 o.2.1 o.2.2 (i32 P) (i32 Q) F (0 : Int32) = some (Sum.inl (i32 (10000 + p), o.1, o.2.1, o.2.2)) := e
      rw [e, if_neg (i32_m1 (by omega))]
      exact ⟨1, p, _, rfl, by omega, by omega, fun z => by omega, rfl, fun _ => rfl, fun z => by omega, fun z => by omega⟩
    · exact (b1 p (by omega) a1 ⟨a2, a3⟩).elim
  rcases mp with ⟨q, _, b1, b2, _, _⟩ | ⟨b1, e⟩
  · exact (a1 q b1 b2).elim
  have e : s_Mod_thingAt_L6 mnow o.1 o.2.1 o.2.2 (i32 P) (i32 Q) F (0 : Int32) = some (Sum.inr (i32 n)) := e
  rw [e, if_pos rfl]
  simp only [Option.bind_some, Sum.elim_inr]
  -- edges: the class
  have ce := ff (fun fu i => s_Mesh_edgeAt_L2 pxs pys el eh (i32 c) (i32 P) (i32 Q) fu (i32 i)) c (fun k => cov (pt X Y (f k)) (pt X Y (g k)) (P, Q, 1)) (fun k => Sum.inl (i32 k)) (Sum.inr (i32 c))
    (fun fu => by simp only [s_Mesh_edgeAt_L2]; rw [if_pos (y_le (by omega) (by omega))])
    (fun fu i hi h => by
      have fl := fg_lt D.1.1 hL hi
      simp only [s_Mesh_edgeAt_L2]
      rw [if_neg (n_le (by omega) hi), rget el (by omega) (by omega), rget eh (by omega) (by omega), (w5 i hi).1, (w5 i hi).2, c_cov hC hO fl.1 fl.2.1 hx hy, if_neg (bI_t h)])
    (fun fu i hi h => by
      have fl := fg_lt D.1.1 hL hi
      simp only [s_Mesh_edgeAt_L2]
      rw [if_neg (n_le (by omega) hi), rget el (by omega) (by omega), rget eh (by omega) (by omega), (w5 i hi).1, (w5 i hi).2, c_cov hC hO fl.1 fl.2.1 hx hy, if_pos (bI_f h), i32_s])
    c 0 F (by omega) (by omega)
  -- edges: the reference
  have inner : ∀ a k, a < n → Pos c f g k a (a + 1) → (∀ j, j < k → ¬ cov (pt X Y (f j)) (pt X Y (g j)) (P, Q, 1)) → ∃ r, s_Mod_thingAt_L59 F mnow o.1 o.2.1 o.2.2 (i32 P) (i32 Q) (i32 a) F (i32 (a + 1)) = some r ∧
      ((∃ b, b < c ∧ cov (pt X Y (f b)) (pt X Y (g b)) (P, Q, 1) ∧ (∀ j, j < b → ¬ cov (pt X Y (f j)) (pt X Y (g j)) (P, Q, 1)) ∧ r = Sum.inl (i32 (20000 + b), o.1, o.2.1, o.2.2)) ∨ (∃ k', r = Sum.inr (i32 n) ∧ Pos c f g k' (a + 1) (a + 2) ∧ (∀ j, j < k' → ¬ cov (pt X Y (f j)) (pt X Y (g j)) (P, Q, 1)))) := by
    intro a k ha hp hk0
    exact lpE (fun fu i (k : Nat) => s_Mod_thingAt_L59 F mnow o.1 o.2.1 o.2.2 (i32 P) (i32 Q) (i32 a) fu (i32 i)) n (fun i k => a < i ∧ Pos c f g k a i ∧ (∀ j, j < k → ¬ cov (pt X Y (f j)) (pt X Y (g j)) (P, Q, 1))) _
      (fun fu s ⟨_, hs, hs2⟩ => by
        refine ⟨Sum.inr (i32 n), ?_, Or.inr ⟨s, rfl, pos_row hR hL hs, hs2⟩⟩
        simp only [s_Mod_thingAt_L59, m_n hM, Option.bind_some]
        rw [if_pos (y_le (by omega) (by omega))])
      (fun fu i s hi ⟨hai, hs, hs2⟩ => by
        have mo := m_on hM hO ha hi hx hy
        by_cases e : E a i
        · obtain ⟨q1, q2, q3, q4⟩ := pos_hit hL hs ⟨e, hai⟩
          by_cases z : cov (pt X Y a) (pt X Y i) (P, Q, 1)
          · left
            obtain ⟨r, r1, r2⟩ := m_numOf hM hO D.1.1 B.1 hc hL F hF ha hi
            have rs : r = i32 s := by
              rcases r2 with ⟨k, w1, w2, w3, rfl⟩ | ⟨w1, _⟩
              · rw [Nat.min_eq_left (by omega)] at w2
                rw [Nat.max_eq_right (by omega)] at w3
                rw [lst_inj hL.2.1 k s w1 q1 (by rw [w2, q2]) (by rw [w3, q3])]
              · exact (w1 s q1 ⟨by rw [q2, Nat.min_eq_left (by omega)], by rw [q3, Nat.max_eq_right (by omega)]⟩).elim
            refine ⟨_, ?_, Or.inl ⟨s, q1, by rw [q2, q3]; exact z, hs2, rfl⟩⟩
            simp only [s_Mod_thingAt_L59, m_n hM, Option.bind_some, m_has B.1 (show a < 17 by omega) (show i < 17 by omega), mo, r1, rs]
            rw [if_neg (n_le (by omega) hi), if_neg (bI_t e), if_neg (bI_t z), show (20000 : Int32) = i32 20000 from rfl, i32_add]
          · right
            refine ⟨s + 1, ⟨by omega, q4, ?_⟩, ?_⟩
            · intro j hj
              by_cases w : j = s
              · rw [w, q2, q3]; exact z
              · exact hs2 j (by omega)
            · simp only [s_Mod_thingAt_L59, m_n hM, Option.bind_some, m_has B.1 (show a < 17 by omega) (show i < 17 by omega), mo]
              rw [if_neg (n_le (by omega) hi), if_neg (bI_t e), if_pos (bI_f z), i32_s]
        · right
          refine ⟨s, ⟨by omega, pos_miss hL hs (fun z => e z.1), hs2⟩, ?_⟩
          simp only [s_Mod_thingAt_L59, m_n hM, Option.bind_some, m_has B.1 (show a < 17 by omega) (show i < 17 by omega)]
          rw [if_neg (n_le (by omega) hi), if_pos (bI_f e), i32_s])
      (n - (a + 1)) (a + 1) F k (by omega) (by omega) ⟨by omega, hp, hk0⟩
  obtain ⟨r, r1, r2⟩ := lpE (fun fu i (k : Nat) => s_Mod_thingAt_L46 F mnow o.1 o.2.1 o.2.2 (i32 P) (i32 Q) fu (i32 i)) n (fun i k => Pos c f g k i (i + 1) ∧ (∀ j, j < k → ¬ cov (pt X Y (f j)) (pt X Y (g j)) (P, Q, 1)))
    (fun r => (∃ b, b < c ∧ cov (pt X Y (f b)) (pt X Y (g b)) (P, Q, 1) ∧ (∀ j, j < b → ¬ cov (pt X Y (f j)) (pt X Y (g j)) (P, Q, 1)) ∧ r = Sum.inl (i32 (20000 + b), o.1, o.2.1, o.2.2)) ∨ (∃ z, r = Sum.inr z ∧ (∀ j, j < c → ¬ cov (pt X Y (f j)) (pt X Y (g j)) (P, Q, 1))))
    (fun fu s ⟨hs, hs2⟩ => by
      have := pos_end hR hL hs
      subst this
      refine ⟨Sum.inr (i32 n), ?_, Or.inr ⟨_, rfl, hs2⟩⟩
      simp only [s_Mod_thingAt_L46, m_n hM, Option.bind_some]
      rw [if_pos (y_le (by omega) (by omega))])
    (fun fu i s hi ⟨hs, hs2⟩ => by
      obtain ⟨r, q1, q2⟩ := inner i s hi hs hs2
      rcases q2 with ⟨b, w1, w2, w3, rfl⟩ | ⟨k', rfl, w1, w2⟩
      · left
        refine ⟨_, ?_, Or.inl ⟨b, w1, w2, w3, rfl⟩⟩
        simp only [s_Mod_thingAt_L46, m_n hM, Option.bind_some]
        rw [if_neg (n_le (by omega) hi), i32_s, q1]
        rfl
      · right
        refine ⟨k', ⟨w1, w2⟩, ?_⟩
        simp only [s_Mod_thingAt_L46, m_n hM, Option.bind_some]
        rw [if_neg (n_le (by omega) hi), i32_s, q1]
        rfl)
    n 0 F 0 (by omega) (by omega) ⟨pos_0 hR hL, fun j hj => by omega⟩
  have r1 : s_Mod_thingAt_L46 F mnow o.1 o.2.1 o.2.2 (i32 P) (i32 Q) F (0 : Int32) = some r := r1
  rw [r1]
  rcases ce with ⟨b, _, c1, c2, c3, e1⟩ | ⟨c1, e1⟩
  · have e1 : s_Mesh_edgeAt_L2 pxs pys el eh (i32 c) (i32 P) (i32 Q) F (0 : Int32) = some (Sum.inl (i32 b)) := e1
    have ea : s_Mesh_edgeAt F pxs pys el eh (i32 c) (i32 P) (i32 Q) = some (i32 b) := by unfold s_Mesh_edgeAt; rw [e1]; rfl
    rcases r2 with ⟨b', d1, d2, d3, rfl⟩ | ⟨z, _, d1⟩
    · have bb : b = b' := by
        rcases Nat.lt_trichotomy b b' with z | z | z
        · exact (d3 b z c2).elim
        · exact z
        · exact (c3 b' (by omega) z d2).elim
      subst bb
      rw [ea]
      simp only [Option.bind_some, Sum.elim_inl]
      rw [if_neg (i32_m1 (by omega))]
      exact ⟨2, b, _, rfl, by omega, by omega, fun z => by omega, rfl, fun z => by omega, fun _ => rfl, fun z => by omega⟩
    · exact (d1 b c1 c2).elim
  have e1 : s_Mesh_edgeAt_L2 pxs pys el eh (i32 c) (i32 P) (i32 Q) F (0 : Int32) = some (Sum.inr (i32 c)) := e1
  have ea : s_Mesh_edgeAt F pxs pys el eh (i32 c) (i32 P) (i32 Q) = some (-1 : Int32) := by unfold s_Mesh_edgeAt; rw [e1]; rfl
  rcases r2 with ⟨b', d1, d2, d3, rfl⟩ | ⟨z, rfl, d1⟩
  · exact (c1 b' (by omega) d1 d2).elim
  rw [ea]
  simp only [Option.bind_some, Sum.elim_inr]
  rw [if_pos trivial]
  -- triangles
  have ex := fun i (hi : i < t) => q_exit hC hM hO hF D.1.1 D.2.2.2.2.1 B.2.1 w6 hx hy hi
  have ctr := ff (fun fu i => s_Mesh_triangleAt_L2 F pxs pys co (i32 t) (i32 P) (i32 Q) fu (i32 i)) t (fun i => s_Mesh_exitTowards F pxs pys co (i32 i) (i32 P) (i32 Q) = some (-1 : Int32)) (fun i => Sum.inl (i32 i)) (Sum.inr (i32 t))
    (fun fu => by simp only [s_Mesh_triangleAt_L2]; rw [if_pos (y_le (by omega) (by omega))])
    (fun fu i hi h => by
      simp only [s_Mesh_triangleAt_L2]
      rw [if_neg (n_le (by omega) hi), h]
      simp only [Option.bind_some]
      rw [if_pos trivial])
    (fun fu i hi h => by
      obtain ⟨r, e1, e2, e3⟩ := ex i hi
      simp only [s_Mesh_triangleAt_L2]
      rw [if_neg (n_le (by omega) hi), e2]
      simp only [Option.bind_some]
      rw [if_neg (fun z => h (by rw [e2, z])), i32_s])
    t 0 F (by omega) (by omega)
  have mtr := ff (fun fu i => s_Mod_thingAt_L116 F mnow o.1 o.2.1 (i32 t) (i32 P) (i32 Q) fu (i32 i)) t (fun i => s_Mesh_exitTowards F pxs pys co (i32 i) (i32 P) (i32 Q) = some (-1 : Int32)) (fun i => Sum.inl (i32 (30000 + i), o.1, o.2.1, i32 t)) (Sum.inr (i32 t))
    (fun fu => by simp only [s_Mod_thingAt_L116]; rw [if_pos (y_le (by omega) (by omega))])
    (fun fu i hi h => by
      obtain ⟨r, e1, e2, e3⟩ := ex i hi
      rw [e2] at h
      injection h with h
      subst h
      simp only [s_Mod_thingAt_L116]
      rw [if_neg (n_le (by omega) hi), e1]
      simp only [Option.bind_some]
      rw [if_neg (by decide), show (30000 : Int32) = i32 30000 from rfl, i32_add])
    (fun fu i hi h => by
      obtain ⟨r, e1, e2, e3⟩ := ex i hi
      simp only [s_Mod_thingAt_L116]
      rw [if_neg (n_le (by omega) hi), e1]
      simp only [Option.bind_some]
      rcases e3 with rfl | ⟨k, k1, rfl⟩
      · exact (h e2).elim
      · rw [if_pos (i32_nn (by omega)), i32_s])
    t 0 F (by omega) (by omega)
  have o22 : o.2.2 = i32 t := B.2.2
  rw [o22]
  rcases ctr with ⟨i, _, i1, i2, i3, e1⟩ | ⟨i1, e1⟩
  · have e1 : s_Mesh_triangleAt_L2 F pxs pys co (i32 t) (i32 P) (i32 Q) F (0 : Int32) = some (Sum.inl (i32 i)) := e1
    have ta' : s_Mesh_triangleAt F pxs pys co (i32 t) (i32 P) (i32 Q) = some (i32 i) := by unfold s_Mesh_triangleAt; rw [e1]; rfl
    rcases mtr with ⟨j, _, j1, j2, j3, e2⟩ | ⟨j1, _⟩
    · have ij : i = j := by
        rcases Nat.lt_trichotomy i j with z | z | z
        · exact (j3 i (by omega) z i2).elim
        · exact z
        · exact (i3 j (by omega) z j2).elim
      subst ij
      have e2 : s_Mod_thingAt_L116 F mnow o.1 o.2.1 (i32 t) (i32 P) (i32 Q) F (0 : Int32) = some (Sum.inl (i32 (30000 + i), o.1, o.2.1, i32 t)) := e2
      rw [e2, ta']
      simp only [Option.bind_some, Sum.elim_inl]
      rw [if_neg (i32_m1 (by omega))]
      exact ⟨3, i, _, rfl, by omega, by omega, fun z => by omega, rfl, fun z => by omega, fun z => by omega, fun _ => rfl⟩
    · exact (j1 i (by omega) i1 i2).elim
  · have e1 : s_Mesh_triangleAt_L2 F pxs pys co (i32 t) (i32 P) (i32 Q) F (0 : Int32) = some (Sum.inr (i32 t)) := e1
    have ta' : s_Mesh_triangleAt F pxs pys co (i32 t) (i32 P) (i32 Q) = some (-1 : Int32) := by unfold s_Mesh_triangleAt; rw [e1]; rfl
    rcases mtr with ⟨j, _, j1, j2, j3, e2⟩ | ⟨j1, e2⟩
    · exact (i1 j (by omega) j1 j2).elim
    · have e2 : s_Mod_thingAt_L116 F mnow o.1 o.2.1 (i32 t) (i32 P) (i32 Q) F (0 : Int32) = some (Sum.inr (i32 t)) := e2
      rw [e2, ta']
      simp only [Option.bind_some, Sum.elim_inr]
      rw [if_pos trivial]
      exact ⟨0, 0, _, rfl, by omega, by omega, fun _ => rfl, rfl, fun z => by omega, fun z => by omega, fun z => by omega⟩
theorem i32_div {K i : Nat} (hK : K < 4) (hi : i < 1000) : i32 (10000 * K + i) / (10000 : Int32) = i32 K ∧ i32 (10000 * K + i) - i32 (10000 * K + i) / (10000 : Int32) * (10000 : Int32) = i32 i := by
  have h : i32 (10000 * K + i) / (10000 : Int32) = i32 K := by
    rw [← Int32.toInt_inj, i32_ti (by omega)]
    have e : (10000 : Int32).toInt = 10000 := by decide
    rw [Int32.toInt_div, i32_ti (by omega), e, bm]
    · rw [Int.tdiv_eq_ediv_of_nonneg (by omega)]; omega
    · rw [Int.tdiv_eq_ediv_of_nonneg (by omega)]; omega
    · rw [Int.tdiv_eq_ediv_of_nonneg (by omega)]; omega
  refine ⟨h, ?_⟩
  rw [h, show (10000 : Int32) = i32 10000 from rfl, i32_mul, i32_sub (by omega)]
  congr 1; omega
theorem k_29 (cx : Cx F n m X Y L H pxs pys plo phi pn pm mnow (lf, th, ow, lk, el, eh, co, hu, ne, nt, nh) medg mcor) : ∃ out, s_case_29 F xs pxs pys pn el eh co ne nt mnow medg mcor mtri fl x5 = some out := by
  have an : ∀ a0 a1 : Int32, ∃ v thr r q, s_Mod_kindAt F mnow medg mcor mtri a0 a1 = some (v, thr, r) ∧ s_Top_kindAt F pxs pys pn el eh co ne nt a0 a1 = some q ∧ An ["java/lang/IllegalArgumentException"] q v thr := by
    intro a0 a1
    unfold s_Mod_kindAt s_Top_kindAt
    rcases c_rpos (a0 := a0) (a1 := a1) with ⟨P, Q, hP, hQ, rfl, rfl, e1, e2⟩ | ⟨e1, e2⟩
    · rw [e1, e2, if_neg (by decide)]
      simp only [Sum.elim_inr]
      obtain ⟨K, i, r, h1, h2, h3, h4, h5, h6, h7, h8⟩ := q_where cx hP hQ
      rw [h1, h5]
      simp only [Option.bind_some]
      rw [(i32_div h3 h2).1]
      exact ⟨_, _, _, _, rfl, rfl, an_v _ _⟩
    · rw [e1, e2, if_pos (show bI false = 0 from rfl)]
      exact ⟨_, _, _, _, rfl, rfl, an_1 _ _ _⟩
  obtain ⟨v, thr, r, q, h1, h3, h2⟩ := an (xs (x5 + (1 : Int32)).toNatClampNeg) (xs (x5 + (2 : Int32)).toNatClampNeg)
  obtain ⟨fl', l1, l2⟩ := law1_an h2 fl
  refine ⟨_, caseG _ (show s_Law_kindAt F pxs pys pn el eh co ne nt _ _ fl = some (thr, fl') from ?_) h1 l2⟩
  unfold s_Law_kindAt
  rw [h3]; exact l1
theorem k_30 (cx : Cx F n m X Y L H pxs pys plo phi pn pm mnow (lf, th, ow, lk, el, eh, co, hu, ne, nt, nh) medg mcor) : ∃ out, s_case_30 F xs pxs pys pn el eh co ne nt mnow medg mcor mtri fl x5 = some out := by
  have an : ∀ a0 a1 : Int32, ∃ v thr r q, s_Mod_numberAt F mnow medg mcor mtri a0 a1 = some (v, thr, r) ∧ s_Top_numberAt F pxs pys pn el eh co ne nt a0 a1 = some q ∧ An ["java/lang/IllegalArgumentException", "java/util/NoSuchElementException"] q v thr := by
    intro a0 a1
    unfold s_Mod_numberAt s_Top_numberAt
    rcases c_rpos (a0 := a0) (a1 := a1) with ⟨P, Q, hP, hQ, rfl, rfl, e1, e2⟩ | ⟨e1, e2⟩
    · rw [e1, e2, if_neg (by decide)]
      simp only [Sum.elim_inr]
      obtain ⟨K, i, r, h1, h2, h3, h4, h5, h6, h7, h8⟩ := q_where cx hP hQ
      rw [h1, h5]
      simp only [Option.bind_some]
      have : K = 0 ∨ K = 1 ∨ K = 2 ∨ K = 3 := by omega
      rcases this with rfl | rfl | rfl | rfl
      · rw [h4 rfl, if_pos (show i32 (10000 * 0 + 0) = 0 from rfl), if_neg (by decide), if_neg (by decide), if_neg (by decide)]
        exact ⟨_, _, _, _, rfl, rfl, an_2 _ _ _ _⟩
      · rw [if_neg (fun z => by have := (i32_0 (by omega)).1 z; omega), if_pos (show i32 1 = (1 : Int32) from rfl), h6 rfl, (i32_div h3 h2).2]
        exact ⟨_, _, _, _, rfl, rfl, an_v _ _⟩
      · rw [if_neg (fun z => by have := (i32_0 (by omega)).1 z; omega), if_neg (by decide), if_pos (show i32 2 = (2 : Int32) from rfl), h7 rfl, (i32_div h3 h2).2]
        exact ⟨_, _, _, _, rfl, rfl, an_v _ _⟩
      · rw [if_neg (fun z => by have := (i32_0 (by omega)).1 z; omega), if_neg (by decide), if_neg (by decide), if_pos (show i32 3 = (3 : Int32) from rfl), h8 rfl, (i32_div h3 h2).2]
        exact ⟨_, _, _, _, rfl, rfl, an_v _ _⟩
    · rw [e1, e2, if_pos (show bI false = 0 from rfl)]
      exact ⟨_, _, _, _, rfl, rfl, an_1 _ _ _⟩
  obtain ⟨v, thr, r, q, h1, h3, h2⟩ := an (xs (x5 + (1 : Int32)).toNatClampNeg) (xs (x5 + (2 : Int32)).toNatClampNeg)
  obtain ⟨fl', l1, l2⟩ := law2_an h2 (by decide) fl
  refine ⟨_, caseG _ (show s_Law_numberAt F pxs pys pn el eh co ne nt _ _ fl = some (thr, fl') from ?_) h1 l2⟩
  unfold s_Law_numberAt
  rw [h3]; exact l1
end ASK6

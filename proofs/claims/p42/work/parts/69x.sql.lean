section SQL
variable {F n m : Nat} {X Y : Nat → Int} {L H : Nat → Nat} {pxs pys plo phi : Nat → Int32} {pn pm : Int32} {mnow : Nat → Int32}
variable {lf th ow lk el eh co hu : Nat → Int32} {ne nt nh : Int32} {medg mcor mmet : Nat → Int32} {mtri : Int32} {xs : Nat → Int32} {fl : Nat → Int64} {x5 : Int32}
theorem an_sql (cx : Cx F n m X Y L H pxs pys plo phi pn pm mnow (lf, th, ow, lk, el, eh, co, hu, ne, nt, nh) medg mcor) (mtri a0 : Int32) :
    ∃ v thr r q, s_Mod_squaredLength F mnow medg mcor mtri mmet a0 = some (v, thr, r) ∧ s_Top_squaredLength F pxs pys pn el eh ne a0 = some q ∧ An ["java/lang/IllegalArgumentException", "java/util/NoSuchElementException"] q v thr := by
  obtain ⟨hF, hC, hM, hO, o, hb, E, c, f, g, t, ta, tb, tc, T, hp, D, K, B⟩ := cx
  obtain ⟨k1, k2, k3, k4, k5, k6, k7, k8, k9, k10⟩ := K
  have hc := D.2.2.1
  have hL := D.2.2.2.1
  have hn := hO.1
  have k8 : ne = i32 c := k8
  have w5 : EdR c f g el eh := k5
  have e := hC.1
  subst k8; subst e
  have G := D.1.1
  have CT : Ct n E := D.1.2.2
  unfold s_Mod_squaredLength s_Top_squaredLength
  rw [m_in2]
  by_cases h : ∃ k, k < 3 ∧ a0 = i32 k
  case neg =>
    rw [if_pos (bI_f h)]
    by_cases z : a0 < 0
    · rw [if_pos z]; exact ⟨_, _, _, _, rfl, rfl, an_1 _ _ _⟩
    · have nn : (0 : Int32) ≤ a0 := by
        by_cases u : (0 : Int32) ≤ a0
        · exact u
        · exact (z (lt_of_nle u)).elim
      obtain ⟨k, hk, rfl⟩ := i32_of nn
      rw [if_neg z, if_neg (show ¬ (i32 k ≤ (2 : Int32)) from n_le (b := 2) hk (by
        by_cases u : 2 < k
        · exact u
        · exact (h ⟨k, by omega, rfl⟩).elim))]
      exact ⟨_, _, _, _, rfl, rfl, an_1 _ _ _⟩
  rw [if_neg (bI_t h)]
  obtain ⟨k, hk, rfl⟩ := h
  rw [if_neg (i32_neg (by omega)), if_pos (show i32 k ≤ (2 : Int32) from y_le (b := 2) (by omega) (by omega)), hb]
  simp only [Option.bind_some]
  rw [m_total hM hO G B.1 hc hL F hF]
  simp only [Option.bind_some]
  by_cases c0 : c = 0
  · subst c0
    rw [if_pos (show i32 0 = (0 : Int32) from rfl), if_pos (show s_Mesh_edges (i32 0) = (0 : Int32) from rfl)]
    exact ⟨_, _, _, _, rfl, rfl, an_2 _ _ _ _⟩
  have hp0 : 0 < c := by omega
  obtain ⟨q1, q2, q3, q4⟩ := fg_lt G hL hp0
  rw [if_neg (show ¬ (i32 c = (0 : Int32)) from n_eq (b := 0) (by omega) (by omega) c0), if_neg (show ¬ (s_Mesh_edges (i32 c) = (0 : Int32)) from n_eq (b := 0) (by omega) (by omega) c0)]
  by_cases z2 : k = 2
  · subst z2
    obtain ⟨s1, a1, a2⟩ := c_tree hC hO hF G CT w5 hc hL (by omega)
    obtain ⟨s2, r, b1, b2⟩ := m_tree hM hC hO hF G CT B.1 (by omega) mmet
    have : s1 = s2 := by omega
    subst this
    rw [if_pos (show i32 2 = (2 : Int32) from rfl), b1, if_neg (show ¬ (i32 2 = (0 : Int32)) by decide), if_neg (show ¬ (i32 2 = (1 : Int32)) by decide), a1]
    exact ⟨_, _, _, _, rfl, rfl, an_v _ _⟩
  rw [if_neg (show ¬ (i32 k = (2 : Int32)) from n_eq (b := 2) (by omega) (by omega) z2)]
  by_cases z0 : k = 0
  · subst z0
    obtain ⟨M1, a1, ⟨k, a2, a3⟩, a4⟩ := c_least hC hO hF G w5 hc hL hp0
    obtain ⟨M2, b1, ⟨u, v, b2, b3⟩, b4⟩ := m_least hM hO hC hF G B.1 q4
    have b1 : s_Mod_squaredLength_L60 F mnow o.1 (i32 0) F (2147483647 : Int32) (0 : Int32) = some (i32 M2, i32 n) := b1
    have : M1 = M2 := by
      obtain ⟨k', d1, d2⟩ := in_wl (X := X) (Y := Y) G hL b2
      have e1 := a4 k' d1
      have e2 := b4 _ _ (fg_lt G hL a2).2.2.2
      omega
    subst this
    rw [if_pos (show i32 0 = (0 : Int32) from rfl), if_pos (show i32 0 = (0 : Int32) from rfl), b1, a1]
    exact ⟨_, _, _, _, rfl, rfl, an_v _ _⟩
  · have z1 : k = 1 := by omega
    subst z1
    obtain ⟨M1, a1, ⟨k, a2, a3⟩, a4⟩ := c_most hC hO hF G w5 hc hL hp0
    obtain ⟨M2, b1, ⟨u, v, b2, b3⟩, b4⟩ := m_most hM hO hC hF G B.1 q4 (i32 1) (by decide)
    have : M1 = M2 := by
      obtain ⟨k', d1, d2⟩ := in_wl (X := X) (Y := Y) G hL b2
      have e1 := a4 k' d1
      have e2 := b4 _ _ (fg_lt G hL a2).2.2.2
      omega
    subst this
    rw [if_neg (show ¬ (i32 1 = (0 : Int32)) by decide), if_neg (show ¬ (i32 1 = (0 : Int32)) by decide), if_pos (show i32 1 = (1 : Int32) from rfl), b1, a1]
    exact ⟨_, _, _, _, rfl, rfl, an_v _ _⟩
theorem k_24 (cx : Cx F n m X Y L H pxs pys plo phi pn pm mnow (lf, th, ow, lk, el, eh, co, hu, ne, nt, nh) medg mcor) : ∃ out, s_case_24 F xs pxs pys pn el eh ne mnow medg mcor mtri mmet fl x5 = some out := by
  obtain ⟨v, thr, r, q, h1, h3, h2⟩ := an_sql (mmet := mmet) cx mtri (xs (x5 + (1 : Int32)).toNatClampNeg)
  obtain ⟨fl', l1, l2⟩ := law2_an h2 (by decide) fl
  refine ⟨_, caseG _ (show s_Law_squaredLength F pxs pys pn el eh ne _ fl = some (thr, fl') from ?_) h1 l2⟩
  unfold s_Law_squaredLength
  rw [h3]; exact l1
end SQL

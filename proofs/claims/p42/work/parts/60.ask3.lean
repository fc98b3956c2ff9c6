/-- what a question finds -/
def Cx (F n m : Nat) (X Y : Nat → Int) (L H : Nat → Nat) (pxs pys plo phi : Nat → Int32) (pn pm : Int32) (mnow : Nat → Int32) (M : MeshT) (medg mcor : Nat → Int32) : Prop :=
  300 ≤ F ∧ CP n m X Y L H pxs pys plo phi pn pm ∧ MP n m X Y L H mnow ∧ Ok n m X Y L H ∧ ∃ o, s_Mod_builds F mnow medg mcor = some o ∧ Sim n m X Y L H M o
section ASK3
variable {F n m : Nat} {X Y : Nat → Int} {L H : Nat → Nat} {pxs pys plo phi : Nat → Int32} {pn pm : Int32} {mnow : Nat → Int32}
variable {lf th ow lk el eh co hu : Nat → Int32} {ne nt nh : Int32} {medg mcor : Nat → Int32} {mtri : Int32} {xs : Nat → Int32} {fl : Nat → Int64} {x5 : Int32}
theorem m_isT {t : Nat} (ht : t ≤ 27) {o : (Nat → Int32) × (Nat → Int32) × Int32} (hb : s_Mod_builds F mnow medg mcor = some o) (h2 : o.2.2 = i32 t) (a0 : Int32) :
    s_Mod_isTriangle F mnow medg mcor a0 = some (dB (∃ a, a < t ∧ a0 = i32 a), o.1, o.2.1, i32 t) := by
  unfold s_Mod_isTriangle
  rw [hb]
  simp only [Option.bind_some]
  rw [h2, m_in t (by omega)]
theorem k_3 (hC : CP n m X Y L H pxs pys plo phi pn pm) (hM : MP n m X Y L H mnow) : ∃ out, s_case_3 pn mnow = some out := by
  unfold s_case_3 s_Mod_pointCount
  rw [m_n hM]
  simp only [Option.bind_some]
  exact ⟨_, if_pos (show s_Top_pointCount pn = i32 n from hC.1)⟩
theorem k_7 (hC : CP n m X Y L H pxs pys plo phi pn pm) (hM : MP n m X Y L H mnow) : ∃ out, s_case_7 pm mnow = some out := by
  unfold s_case_7 s_Mod_constraintCount
  rw [m_m hM]
  simp only [Option.bind_some]
  exact ⟨_, if_pos (show s_Top_constraintCount pm = i32 m from hC.2.1)⟩
/-- the law's comparison where the reference says nothing more -/
theorem caseG2 {B : Type} {law : Option (Int32 × (Nat → Int64))} {mod : Option (Int32 × Int32)} (f : (Int32 × (Nat → Int64)) → (Int32 × Int32) → B) {v thr : Int32} {fl' : Nat → Int64}
    (h1 : law = some (thr, fl')) (h2 : mod = some (v, thr)) (h3 : thr = 0 → fl' 0 = v.toInt64) :
    (law.bind fun v1 => mod.bind fun v2 => if (s_Mod_thrown v2.2) = v1.1 then (if v1.1 = 0 then (if (lg_cmp (v1.2 (0 : Int32).toNatClampNeg) (v2.1.toInt64)) = 0 then some (f v1 v2) else none) else some (f v1 v2)) else none) = some (f (thr, fl') (v, thr)) := by
  rw [h1, h2]
  simp only [Option.bind_some]
  rw [if_pos (show s_Mod_thrown thr = thr from rfl)]
  by_cases c : thr = 0
  · rw [if_pos c, if_pos]
    show lg_cmp (fl' 0) v.toInt64 = 0
    rw [h3 c]; exact lgc _
  · rw [if_neg c]
theorem an_coord (hC : CP n m X Y L H pxs pys plo phi pn pm) (hM : MP n m X Y L H mnow) (hO : Ok n m X Y L H) (a0 a1 : Int32) :
    ∃ v thr, s_Mod_coordinate mnow a0 a1 = some (v, thr) ∧ An ["java/lang/IndexOutOfBoundsException", "java/lang/IllegalArgumentException"] (s_Top_coordinate pxs pys pn a0 a1) v thr := by
  have hn := hO.1
  have e := hC.1
  subst e
  unfold s_Mod_coordinate s_Top_coordinate
  rw [m_isP hM hO, m_in1]
  simp only [Option.bind_some]
  by_cases h : ∃ a, a < n ∧ a0 = i32 a
  case neg => rw [if_pos (bI_f h), c_rpN hn h]; exact ⟨_, _, rfl, an_1 _ _ _⟩
  rw [if_neg (bI_t h)]
  obtain ⟨a, ha, rfl⟩ := h
  rw [c_rpY hn ha]
  simp only [Sum.elim_inr]
  by_cases k : a1 = 0 ∨ a1 = 1
  case neg => rw [if_pos (bI_f k), c_rbN k]; exact ⟨_, _, rfl, an_2 _ _ _ _⟩
  rw [if_neg (bI_t k)]
  have rx : s_Plan_xOf pxs (i32 a) = mnow (2 + a) := by
    rw [← Int32.toInt_inj]; unfold s_Plan_xOf
    rw [(c_rx hC hO ha).1, (m_rx hM hO ha).1]
  have ry : s_Plan_yOf pys (i32 a) = mnow (19 + a) := by
    rw [← Int32.toInt_inj]; unfold s_Plan_yOf
    rw [(c_ry hC hO ha).1, (m_ry hM hO ha).1]
  rcases k with rfl | rfl
  · rw [show s_Top_requireBit 0 = .inr () from rfl, m_x mnow (by omega), rx]
    exact ⟨_, _, rfl, an_v _ _⟩
  · rw [show s_Top_requireBit 1 = .inr () from rfl, m_y mnow (by omega), ry]
    exact ⟨_, _, rfl, an_v _ _⟩
theorem k_4 (hC : CP n m X Y L H pxs pys plo phi pn pm) (hM : MP n m X Y L H mnow) (hO : Ok n m X Y L H) : ∃ out, s_case_4 xs pxs pys pn mnow fl x5 = some out := by
  obtain ⟨v, thr, h1, h2⟩ := an_coord hC hM hO (xs (x5 + (1 : Int32)).toNatClampNeg) (xs (x5 + (2 : Int32)).toNatClampNeg)
  obtain ⟨fl', l1, l2⟩ := law2_an h2 (by decide) fl
  exact ⟨_, caseG2 _ (show s_Law_coordinate pxs pys pn _ _ fl = some (thr, fl') from l1) h1 l2⟩
theorem an_cend (hC : CP n m X Y L H pxs pys plo phi pn pm) (hM : MP n m X Y L H mnow) (hO : Ok n m X Y L H) (a0 a1 : Int32) :
    ∃ v thr, s_Mod_constraintEnd mnow a0 a1 = some (v, thr) ∧ An ["java/lang/IndexOutOfBoundsException", "java/lang/IllegalArgumentException"] (s_Top_constraintEnd plo phi pm a0 a1) v thr := by
  have hm := hO.2.1
  have e := hC.2.1
  subst e
  unfold s_Mod_constraintEnd s_Top_constraintEnd
  rw [m_isC hM hO, m_in1]
  simp only [Option.bind_some]
  by_cases h : ∃ a, a < m ∧ a0 = i32 a
  case neg => rw [if_pos (bI_f h), c_rcN hm h]; exact ⟨_, _, rfl, an_1 _ _ _⟩
  rw [if_neg (bI_t h)]
  obtain ⟨a, ha, rfl⟩ := h
  rw [c_rcY hm ha]
  simp only [Sum.elim_inr]
  by_cases k : a1 = 0 ∨ a1 = 1
  case neg => rw [if_pos (bI_f k), c_rbN k]; exact ⟨_, _, rfl, an_2 _ _ _ _⟩
  rw [if_neg (bI_t k)]
  have r1 : s_Plan_lowEnd plo (i32 a) = i32 (L a) := by
    unfold s_Plan_lowEnd; rw [rget plo (by omega) (by omega), (hC.2.2.2 a ha).1]
  have r2 : s_Plan_highEnd phi (i32 a) = i32 (H a) := by
    unfold s_Plan_highEnd; rw [rget phi (by omega) (by omega), (hC.2.2.2 a ha).2]
  rcases k with rfl | rfl
  · rw [show s_Top_requireBit 0 = .inr () from rfl, m_end0 hM hO ha, r1]
    exact ⟨_, _, rfl, an_v _ _⟩
  · rw [show s_Top_requireBit 1 = .inr () from rfl, m_end1 hM hO ha, r2]
    exact ⟨_, _, rfl, an_v _ _⟩
theorem k_8 (hC : CP n m X Y L H pxs pys plo phi pn pm) (hM : MP n m X Y L H mnow) (hO : Ok n m X Y L H) : ∃ out, s_case_8 xs plo phi pm mnow fl x5 = some out := by
  obtain ⟨v, thr, h1, h2⟩ := an_cend hC hM hO (xs (x5 + (1 : Int32)).toNatClampNeg) (xs (x5 + (2 : Int32)).toNatClampNeg)
  obtain ⟨fl', l1, l2⟩ := law2_an h2 (by decide) fl
  exact ⟨_, caseG2 _ (show s_Law_constraintEnd plo phi pm _ _ fl = some (thr, fl') from l1) h1 l2⟩
theorem k_11 (cx : Cx F n m X Y L H pxs pys plo phi pn pm mnow (lf, th, ow, lk, el, eh, co, hu, ne, nt, nh) medg mcor) : ∃ out, s_case_11 F nt mnow medg mcor = some out := by
  obtain ⟨hF, hC, hM, hO, o, hb, E, c, f, g, t, ta, tb, tc, T, hp, D, K, B⟩ := cx
  obtain ⟨k1, k2, k3, k4, k5, k6, k7, k8, k9, k10⟩ := K
  unfold s_case_11 s_Mod_triangleCount
  rw [hb]
  simp only [Option.bind_some]
  exact ⟨_, if_pos (show s_Top_triangleCount nt = o.2.2 from (show nt = o.2.2 from by rw [B.2.2]; exact k9))⟩
theorem an_corner (cx : Cx F n m X Y L H pxs pys plo phi pn pm mnow (lf, th, ow, lk, el, eh, co, hu, ne, nt, nh) medg mcor) (a0 a1 : Int32) :
    ∃ v thr r, s_Mod_corner F mnow medg mcor a0 a1 = some (v, thr, r) ∧ An ["java/lang/IndexOutOfBoundsException", "java/lang/IllegalArgumentException"] (s_Top_corner co nt a0 a1) v thr := by
  obtain ⟨hF, hC, hM, hO, o, hb, E, c, f, g, t, ta, tb, tc, T, hp, D, K, B⟩ := cx
  obtain ⟨k1, k2, k3, k4, k5, k6, k7, k8, k9, k10⟩ := K
  have ht := D.2.2.2.2.1.1
  have k9 : nt = i32 t := k9
  have k6 : CoR t ta tb tc co := k6
  subst k9
  unfold s_Mod_corner s_Top_corner
  rw [m_isT ht hb B.2.2, m_in2]
  simp only [Option.bind_some]
  by_cases h : ∃ a, a < t ∧ a0 = i32 a
  case neg => rw [if_pos (bI_f h), c_rtN (by omega) h]; exact ⟨_, _, _, rfl, an_1 _ _ _⟩
  rw [if_neg (bI_t h)]
  obtain ⟨a, ha, rfl⟩ := h
  rw [c_rtY (by omega) ha]
  simp only [Sum.elim_inr]
  by_cases k : ∃ k, k < 3 ∧ a1 = i32 k
  case neg => rw [if_pos (bI_f k), c_rkN k]; exact ⟨_, _, _, rfl, an_2 _ _ _ _⟩
  rw [if_neg (bI_t k)]
  obtain ⟨k, hk, rfl⟩ := k
  rw [c_rkY hk, m_corner B.2.1 ht ha (by omega), c_corner k6 ht ha hk, Nat.mod_eq_of_lt hk]
  exact ⟨_, _, _, rfl, an_v _ _⟩
theorem k_12 (cx : Cx F n m X Y L H pxs pys plo phi pn pm mnow (lf, th, ow, lk, el, eh, co, hu, ne, nt, nh) medg mcor) : ∃ out, s_case_12 F xs co nt mnow medg mcor fl x5 = some out := by
  obtain ⟨v, thr, r, h1, h2⟩ := an_corner cx (xs (x5 + (1 : Int32)).toNatClampNeg) (xs (x5 + (2 : Int32)).toNatClampNeg)
  obtain ⟨fl', l1, l2⟩ := law2_an h2 (by decide) fl
  exact ⟨_, caseG _ (show s_Law_corner co nt _ _ fl = some (thr, fl') from l1) h1 l2⟩
theorem an_beyond (cx : Cx F n m X Y L H pxs pys plo phi pn pm mnow (lf, th, ow, lk, el, eh, co, hu, ne, nt, nh) medg mcor) (a0 a1 : Int32) :
    ∃ v thr r, s_Mod_beyond F mnow medg mcor a0 a1 = some (v, thr, r) ∧ An ["java/lang/IndexOutOfBoundsException", "java/lang/IllegalArgumentException"] (s_Top_beyond ow co nt a0 a1) v thr := by
  obtain ⟨hF, hC, hM, hO, o, hb, E, c, f, g, t, ta, tb, tc, T, hp, D, K, B⟩ := cx
  obtain ⟨k1, k2, k3, k4, k5, k6, k7, k8, k9, k10⟩ := K
  have ht := D.2.2.2.2.1.1
  have k9 : nt = i32 t := k9
  have k6 : CoR t ta tb tc co := k6
  have k3 : OwR t ta tb tc ow := k3
  subst k9
  unfold s_Mod_beyond s_Top_beyond
  rw [m_isT ht hb B.2.2, m_in2]
  simp only [Option.bind_some]
  by_cases h : ∃ a, a < t ∧ a0 = i32 a
  case neg => rw [if_pos (bI_f h), c_rtN (by omega) h]; exact ⟨_, _, _, rfl, an_1 _ _ _⟩
  rw [if_neg (bI_t h)]
  obtain ⟨a, ha, rfl⟩ := h
  rw [c_rtY (by omega) ha]
  simp only [Sum.elim_inr]
  by_cases k : ∃ k, k < 3 ∧ a1 = i32 k
  case neg => rw [if_pos (bI_f k), c_rkN k]; exact ⟨_, _, _, rfl, an_2 _ _ _ _⟩
  rw [if_neg (bI_t k)]
  obtain ⟨k, hk, rfl⟩ := k
  obtain ⟨r, r1, r2, _⟩ := q_beyond hM hO D.1.1 D.2.2.2.2.1 B.1 B.2.1 k3 k6 F hF ha hk
  rw [c_rkY hk, r1, r2]
  exact ⟨_, _, _, rfl, an_v _ _⟩
theorem k_13 (cx : Cx F n m X Y L H pxs pys plo phi pn pm mnow (lf, th, ow, lk, el, eh, co, hu, ne, nt, nh) medg mcor) : ∃ out, s_case_13 F xs ow co nt mnow medg mcor fl x5 = some out := by
  obtain ⟨v, thr, r, h1, h2⟩ := an_beyond cx (xs (x5 + (1 : Int32)).toNatClampNeg) (xs (x5 + (2 : Int32)).toNatClampNeg)
  obtain ⟨fl', l1, l2⟩ := law2_an h2 (by decide) fl
  exact ⟨_, caseG _ (show s_Law_beyond ow co nt _ _ fl = some (thr, fl') from l1) h1 l2⟩
theorem k_14 (cx : Cx F n m X Y L H pxs pys plo phi pn pm mnow (lf, th, ow, lk, el, eh, co, hu, ne, nt, nh) medg mcor) : ∃ out, s_case_14 F ne mnow medg mcor = some out := by
  obtain ⟨hF, hC, hM, hO, o, hb, E, c, f, g, t, ta, tb, tc, T, hp, D, K, B⟩ := cx
  obtain ⟨k1, k2, k3, k4, k5, k6, k7, k8, k9, k10⟩ := K
  unfold s_case_14 s_Mod_edgeCount
  rw [hb]
  simp only [Option.bind_some]
  rw [m_total hM hO D.1.1 B.1 D.2.2.1 D.2.2.2.1 F hF]
  simp only [Option.bind_some]
  exact ⟨_, if_pos (show s_Top_edgeCount ne = i32 c from k8)⟩
theorem an_eend (cx : Cx F n m X Y L H pxs pys plo phi pn pm mnow (lf, th, ow, lk, el, eh, co, hu, ne, nt, nh) medg mcor) (mnum : Nat → Int32) (a0 a1 : Int32) :
    ∃ v thr r, s_Mod_edgeEnd F mnow medg mcor mnum a0 a1 = some (v, thr, r) ∧ An ["java/lang/IndexOutOfBoundsException", "java/lang/IllegalArgumentException"] (s_Top_edgeEnd el eh ne a0 a1) v thr := by
  obtain ⟨hF, hC, hM, hO, o, hb, E, c, f, g, t, ta, tb, tc, T, hp, D, K, B⟩ := cx
  obtain ⟨k1, k2, k3, k4, k5, k6, k7, k8, k9, k10⟩ := K
  have hc := D.2.2.1
  have k8 : ne = i32 c := k8
  have w5 : EdR c f g el eh := k5
  subst k8
  unfold s_Mod_edgeEnd s_Top_edgeEnd
  rw [hb, m_in1]
  simp only [Option.bind_some]
  obtain ⟨r, r1, r2⟩ := m_edge hM hO D.1.1 B.1 hc D.2.2.2.1 F hF mnum a0
  rw [r1]
  simp only [Option.bind_some]
  rcases r2 with ⟨a, ha, rfl, q1, q2, q3⟩ | ⟨h, q1⟩
  case inr => rw [q1, if_pos (show bI false = 0 from rfl), c_reN (by omega) h]; exact ⟨_, _, _, rfl, an_1 _ _ _⟩
  rw [q1, if_neg (by decide), c_reY (by omega) ha]
  simp only [Sum.elim_inr]
  by_cases k : a1 = 0 ∨ a1 = 1
  case neg => rw [if_pos (bI_f k), c_rbN k]; exact ⟨_, _, _, rfl, an_2 _ _ _ _⟩
  rw [if_neg (bI_t k)]
  have e1 : s_Mesh_lowEnd el (i32 a) = i32 (f a) := by unfold s_Mesh_lowEnd; rw [rget el (by omega) (by omega), (w5 a ha).1]
  have e2 : s_Mesh_highEnd eh (i32 a) = i32 (g a) := by unfold s_Mesh_highEnd; rw [rget eh (by omega) (by omega), (w5 a ha).2]
  rcases k with rfl | rfl
  · rw [show s_Top_requireBit 0 = .inr () from rfl, e1, show aget 2 r.2 (0 : Int32) = some (r.2 0) from aget_i r.2 (show 0 < 2 by omega) (by omega), q2]
    exact ⟨_, _, _, rfl, an_v _ _⟩
  · rw [show s_Top_requireBit 1 = .inr () from rfl, e2, show aget 2 r.2 (1 : Int32) = some (r.2 1) from aget_i r.2 (show 1 < 2 by omega) (by omega), q3]
    exact ⟨_, _, _, rfl, an_v _ _⟩
theorem k_15 (cx : Cx F n m X Y L H pxs pys plo phi pn pm mnow (lf, th, ow, lk, el, eh, co, hu, ne, nt, nh) medg mcor) {mnum : Nat → Int32} : ∃ out, s_case_15 F xs el eh ne mnow medg mcor mnum fl x5 = some out := by
  obtain ⟨v, thr, r, h1, h2⟩ := an_eend cx mnum (xs (x5 + (1 : Int32)).toNatClampNeg) (xs (x5 + (2 : Int32)).toNatClampNeg)
  obtain ⟨fl', l1, l2⟩ := law2_an h2 (by decide) fl
  exact ⟨_, caseG _ (show s_Law_edgeEnd el eh ne _ _ fl = some (thr, fl') from l1) h1 l2⟩
theorem fg_lt {E : Nat → Nat → Prop} {c : Nat} {f g : Nat → Nat} (G : Ge n (pt X Y) E) (h : Lsa (fun u v => E u v ∧ u < v) c f g) {k : Nat} (hk : k < c) : f k < n ∧ g k < n ∧ f k < g k ∧ E (f k) (g k) := by
  obtain ⟨h1, h2⟩ := h.1 k hk
  have := G.2.2.1 _ _ h1
  exact ⟨this.1, this.2.1, h2, h1⟩
/-- the number of an edge, on both sides -/
theorem q_edge (hM : MP n m X Y L H mnow) (hO : Ok n m X Y L H) {E : Nat → Nat → Prop} {c : Nat} {f g : Nat → Nat} (G : Ge n (pt X Y) E) (hE : ME medg E) (hc : c ≤ 42) (h : Lsa (fun u v => E u v ∧ u < v) c f g)
    (hR : EdR c f g el eh) (hF : 300 ≤ F) {x y : Nat} (hx : x < n) (hy : y < n) :
    ∃ r, s_Mod_numberOf F mnow medg (i32 x) (i32 y) = some r ∧ s_Mesh_edgeOf F el eh (i32 c) (i32 x) (i32 y) = some r ∧
      ((∃ k, k < c ∧ f k = min x y ∧ g k = max x y ∧ r = i32 k) ∨ ((∀ k, k < c → ¬ (f k = min x y ∧ g k = max x y)) ∧ r = (-1 : Int32))) := by
  have hn := hO.1
  obtain ⟨r, r1, r2⟩ := m_numOf hM hO G hE hc h F hF hx hy
  obtain ⟨s, s1, s2⟩ := c_edgeOf hc hR (fun k hk => by have := fg_lt G h hk; omega) F hF (show x < 16 by omega) (show y < 16 by omega)
  have e : s = r := by
    rcases r2 with ⟨k, q1, q2, q3, rfl⟩ | ⟨q1, rfl⟩ <;> rcases s2 with ⟨j, w1, w2, w3, _, rfl⟩ | ⟨w1, rfl⟩
    · rw [lst_inj h.2.1 k j q1 w1 (by rw [q2, w2]) (by rw [q3, w3])]
    · exact (w1 k q1 ⟨q2, q3⟩).elim
    · exact (q1 j w1 ⟨w2, w3⟩).elim
    · rfl
  subst e
  exact ⟨s, r1, s1, r2⟩
theorem an_ebet (cx : Cx F n m X Y L H pxs pys plo phi pn pm mnow (lf, th, ow, lk, el, eh, co, hu, ne, nt, nh) medg mcor) (mtri a0 a1 : Int32) :
    ∃ v thr r q, s_Mod_edgeBetween F mnow medg mcor mtri a0 a1 = some (v, thr, r) ∧ s_Top_edgeBetween F pn el eh ne a0 a1 = some q ∧ An ["java/lang/IndexOutOfBoundsException", "java/util/NoSuchElementException"] q v thr := by
  obtain ⟨hF, hC, hM, hO, o, hb, E, c, f, g, t, ta, tb, tc, T, hp, D, K, B⟩ := cx
  obtain ⟨k1, k2, k3, k4, k5, k6, k7, k8, k9, k10⟩ := K
  have hc := D.2.2.1
  have hn := hO.1
  have k8 : ne = i32 c := k8
  have w5 : EdR c f g el eh := k5
  have e := hC.1
  subst k8; subst e
  unfold s_Mod_edgeBetween s_Top_edgeBetween
  rw [m_isP hM hO, m_isP hM hO]
  simp only [Option.bind_some]
  by_cases h : ∃ a, a < n ∧ a0 = i32 a
  case neg => rw [if_pos (bI_f h), c_rpN hn h]; exact ⟨_, _, _, _, rfl, rfl, an_1 _ _ _⟩
  rw [if_neg (bI_t h)]
  obtain ⟨a, ha, rfl⟩ := h
  rw [c_rpY hn ha]
  simp only [Sum.elim_inr]
  by_cases h : ∃ a, a < n ∧ a1 = i32 a
  case neg => rw [if_pos (bI_f h), c_rpN hn h]; exact ⟨_, _, _, _, rfl, rfl, an_1 _ _ _⟩
  rw [if_neg (bI_t h)]
  obtain ⟨b, hb', rfl⟩ := h
  rw [c_rpY hn hb', hb]
  simp only [Sum.elim_inr, Option.bind_some]
  obtain ⟨r, r1, r2, r3⟩ := q_edge hM hO D.1.1 B.1 hc D.2.2.2.1 w5 hF ha hb'
  rw [r1, r2]
  simp only [Option.bind_some]
  rcases r3 with ⟨k, q1, _, _, rfl⟩ | ⟨_, rfl⟩
  · rw [if_pos (i32_nn (by omega)), if_neg (i32_m1 (by omega))]
    exact ⟨_, _, _, _, rfl, rfl, an_v _ _⟩
  · rw [if_neg (by decide), if_pos rfl]
    exact ⟨_, _, _, _, rfl, rfl, an_2 _ _ _ _⟩
theorem k_16 (cx : Cx F n m X Y L H pxs pys plo phi pn pm mnow (lf, th, ow, lk, el, eh, co, hu, ne, nt, nh) medg mcor) : ∃ out, s_case_16 F xs pn el eh ne mnow medg mcor mtri fl x5 = some out := by
  obtain ⟨v, thr, r, q, h1, h3, h2⟩ := an_ebet cx mtri (xs (x5 + (1 : Int32)).toNatClampNeg) (xs (x5 + (2 : Int32)).toNatClampNeg)
  obtain ⟨fl', l1, l2⟩ := law2_an h2 (by decide) fl
  refine ⟨_, caseG _ (show s_Law_edgeBetween F pn el eh ne _ _ fl = some (thr, fl') from ?_) h1 l2⟩
  unfold s_Law_edgeBetween
  rw [h3]; exact l1
end ASK3

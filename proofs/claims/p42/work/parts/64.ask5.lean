/-- the law's comparison of a quotient -/
theorem caseD {A B : Type} {law : Option (Int32 × (Nat → UInt64))} {mod : Option (UInt64 × Int32 × A)} (f : (Int32 × (Nat → UInt64)) → (UInt64 × Int32 × A) → B) {v : UInt64} {thr : Int32} {a : A} {fd' : Nat → UInt64}
    (h1 : law = some (thr, fd')) (h2 : mod = some (v, thr, a)) (h3 : thr = 0 → fd' 0 = v) :
    (law.bind fun v1 => mod.bind fun v2 => if (s_Mod_thrown v2.2.1) = v1.1 then (if v1.1 = 0 then (if (Op.cmpValue (FP.dcmp (v1.2 (0 : Int32).toNatClampNeg) v2.1) CmpOp.l) = 0 then some (f v1 v2) else
      if (Op.cmpValue (FP.dcmp (v1.2 (0 : Int32).toNatClampNeg) (v1.2 (0 : Int32).toNatClampNeg)) CmpOp.l) = 0 then none else if (Op.cmpValue (FP.dcmp v2.1 v2.1) CmpOp.l) = 0 then none else some (f v1 v2)) else some (f v1 v2)) else none) = some (f (thr, fd') (v, thr, a)) := by
  rw [h1, h2]
  simp only [Option.bind_some]
  rw [if_pos (show s_Mod_thrown thr = thr from rfl)]
  by_cases c : thr = 0
  · rw [if_pos c]
    have e : fd' (0 : Int32).toNatClampNeg = v := h3 c
    simp only [e]
    by_cases q : Op.cmpValue (FP.dcmp v v) CmpOp.l = 0
    · rw [if_pos q]
    · rw [if_neg q, if_neg q, if_neg q]
  · rw [if_neg c]
section ASK5
variable {F n m : Nat} {X Y : Nat → Int} {L H : Nat → Nat} {pxs pys plo phi : Nat → Int32} {pn pm : Int32} {mnow : Nat → Int32}
variable {lf th ow lk el eh co hu : Nat → Int32} {ne nt nh : Int32} {medg mcor : Nat → Int32} {mtri : Int32} {xs : Nat → Int32} {fl : Nat → Int64} {fd : Nat → UInt64} {x5 : Int32}
variable {E : Nat → Nat → Prop} {t : Nat} {ta tb tc : Nat → Nat}
theorem q_area (hC : CP n m X Y L H pxs pys plo phi pn pm) (hM : MP n m X Y L H mnow) (hO : Ok n m X Y L H) (G : Ge n (pt X Y) E) (D : TrD n (pt X Y) E t ta tb tc) (h1 : CoR t ta tb tc mcor) (h2 : CoR t ta tb tc co) {a : Nat} (ha : a < t) :
    ∃ v i, s_Mod_areaOf mnow mcor (i32 a) = some v ∧ s_Mesh_areaOf pxs pys co (i32 a) = v ∧ v.toInt = ((i : Nat) : Int) ∧ 0 < i ∧ i ≤ 20000 := by
  have hn := hO.1
  have ht := D.1
  have A := (D.2.1 a ha).1
  obtain ⟨l1, l2, l3, _⟩ := ap_lt G A
  have bd := dt_bd (pt_w X Y (ta a)) (pt_w X Y (tb a)) (pt_w X Y (tc a)) (hO.2.2.1 _ l1) (hO.2.2.1 _ l2) (hO.2.2.1 _ l3)
  have pos := A.2.2.2.1
  have e : dt (pt X Y (ta a)) (pt X Y (tb a)) (pt X Y (tc a)) = (X (tb a) - X (ta a)) * (Y (tc a) - Y (ta a)) - (Y (tb a) - Y (ta a)) * (X (tc a) - X (ta a)) := by
    simp only [dt, pt]; grind
  have rm := r_area (m_rx hM hO l1) (m_ry hM hO l1) (m_rx hM hO l2) (m_ry hM hO l2) (m_rx hM hO l3) (m_ry hM hO l3)
  have rc := c_tsa hC hO l1 l2 (c_rx hC hO l3) (c_ry hC hO l3)
  refine ⟨((mnow (2 + tb a) - mnow (2 + ta a)) * (mnow (19 + tc a) - mnow (19 + ta a))) - ((mnow (19 + tb a) - mnow (19 + ta a)) * (mnow (2 + tc a) - mnow (2 + ta a))), (dt (pt X Y (ta a)) (pt X Y (tb a)) (pt X Y (tc a))).toNat, ?_, ?_, ?_, by omega, by omega⟩
  · unfold s_Mod_areaOf
    rw [show (0 : Int32) = i32 0 from rfl, show (1 : Int32) = i32 1 from rfl, show (2 : Int32) = i32 2 from rfl, m_corner h1 ht ha (by omega), m_corner h1 ht ha (by omega), m_corner h1 ht ha (by omega)]
    simp only [Option.bind_some]
    rw [show cn ta tb tc a (0 % 3) = ta a from rfl, show cn ta tb tc a (1 % 3) = tb a from rfl, show cn ta tb tc a (2 % 3) = tc a from rfl,
      m_x mnow (by omega), m_y mnow (by omega), m_x mnow (by omega), m_y mnow (by omega), m_x mnow (by omega), m_y mnow (by omega)]
    simp only [Option.bind_some]
  · rw [← Int32.toInt_inj, rm.1, ← e]
    unfold s_Mesh_areaOf s_Plan_xOf s_Plan_yOf
    rw [show (0 : Int32) = i32 0 from rfl, show (1 : Int32) = i32 1 from rfl, show (2 : Int32) = i32 2 from rfl, c_corner h2 ht ha (by omega), c_corner h2 ht ha (by omega), c_corner h2 ht ha (by omega)]
    exact rc.1
  · rw [rm.1, ← e]; omega
theorem an_area (cx : Cx F n m X Y L H pxs pys plo phi pn pm mnow (lf, th, ow, lk, el, eh, co, hu, ne, nt, nh) medg mcor) (a0 : Int32) :
    ∃ v thr r, s_Mod_twiceArea F mnow medg mcor a0 = some (v, thr, r) ∧ An ["java/lang/IndexOutOfBoundsException"] (s_Top_twiceArea pxs pys co nt a0) v thr := by
  obtain ⟨hF, hC, hM, hO, o, hb, E, c, f, g, t, ta, tb, tc, T, hp, D, K, B⟩ := cx
  obtain ⟨k1, k2, k3, k4, k5, k6, k7, k8, k9, k10⟩ := K
  have ht := D.2.2.2.2.1.1
  have w6 : CoR t ta tb tc co := k6
  have k9 : nt = i32 t := k9
  subst k9
  unfold s_Mod_twiceArea s_Top_twiceArea
  rw [m_isT ht hb B.2.2]
  simp only [Option.bind_some]
  by_cases h : ∃ a, a < t ∧ a0 = i32 a
  case neg => rw [if_pos (bI_f h), c_rtN (by omega) h]; exact ⟨_, _, _, rfl, an_1 _ _ _⟩
  rw [if_neg (bI_t h)]
  obtain ⟨a, ha, rfl⟩ := h
  rw [c_rtY (by omega) ha]
  simp only [Sum.elim_inr]
  obtain ⟨v, i, v1, v2, _⟩ := q_area hC hM hO D.1.1 D.2.2.2.2.1 B.2.1 w6 ha
  rw [v1, v2]
  exact ⟨_, _, _, rfl, an_v _ _⟩
theorem k_21 (cx : Cx F n m X Y L H pxs pys plo phi pn pm mnow (lf, th, ow, lk, el, eh, co, hu, ne, nt, nh) medg mcor) : ∃ out, s_case_21 F xs pxs pys co nt mnow medg mcor fl x5 = some out := by
  obtain ⟨v, thr, r, h1, h2⟩ := an_area cx (xs (x5 + (1 : Int32)).toNatClampNeg)
  obtain ⟨fl', l1, l2⟩ := law1_an h2 fl
  exact ⟨_, caseG _ (show s_Law_twiceArea pxs pys co nt _ fl = some (thr, fl') from l1) h1 l2⟩
theorem k_22 (cx : Cx F n m X Y L H pxs pys plo phi pn pm mnow (lf, th, ow, lk, el, eh, co, hu, ne, nt, nh) medg mcor) : ∃ out, s_case_22 F xs pxs pys co nt mnow medg mcor fd x5 = some out := by
  obtain ⟨hF, hC, hM, hO, o, hb, E, c, f, g, t, ta, tb, tc, T, hp, D, K, B⟩ := cx
  obtain ⟨k1, k2, k3, k4, k5, k6, k7, k8, k9, k10⟩ := K
  have ht := D.2.2.2.2.1.1
  have w6 : CoR t ta tb tc co := k6
  have k9 : nt = i32 t := k9
  subst k9
  generalize ha0 : xs (x5 + (1 : Int32)).toNatClampNeg = a0
  have hT := m_isT ht hb B.2.2 a0
  by_cases h : ∃ a, a < t ∧ a0 = i32 a
  case neg =>
    have l1 : s_Law_areaShare F pxs pys co (i32 t) a0 fd = some (1, fd) := by
      unfold s_Law_areaShare s_Top_areaShare
      rw [c_rtN (by omega) h]; rfl
    have m1 : s_Mod_areaShare F mnow medg mcor a0 = some (FP.i2d 0, 1, o.1, o.2.1, i32 t) := by
      unfold s_Mod_areaShare
      rw [hT]
      simp only [Option.bind_some]
      rw [if_pos (bI_f h)]; rfl
    rw [← ha0] at l1 m1
    exact ⟨_, caseD _ l1 m1 (fun z => by cases z)⟩
  obtain ⟨a, ha, rfl⟩ := h
  -- the sums
  obtain ⟨s, ⟨k, s1, s2, s3⟩, s4⟩ := lp (fun fu i (s : Int32) => s_Mod_areaShare_L24 mnow o.2.1 (i32 t) fu s (i32 i)) t (fun i s => ∃ k : Nat, s.toInt = (k : Int) ∧ k ≤ 20000 * i ∧ (0 < i → 0 < k)) (fun s => (s, i32 t))
    (fun fu s hs => by simp only [s_Mod_areaShare_L24]; rw [if_pos (y_le (by omega) (by omega))])
    (fun fu i s hi ⟨k, s1, s2, s3⟩ => by
      obtain ⟨v, j, v1, v2, v3, v4, v5⟩ := q_area hC hM hO D.1.1 D.2.2.2.2.1 B.2.1 w6 hi
      refine ⟨s + v, ⟨k + j, ?_, by omega, by omega⟩, ?_⟩
      · rw [ti_add (by omega) (by omega)]; omega
      · simp only [s_Mod_areaShare_L24, v1, Option.bind_some]
        rw [if_neg (n_le (by omega) hi), i32_s])
    t 0 F 0 (by omega) (by omega) ⟨0, rfl, by omega, by omega⟩
  have s4 : s_Mod_areaShare_L24 mnow o.2.1 (i32 t) F (0 : Int32) (0 : Int32) = some (s, i32 t) := s4
  obtain ⟨s', e1, e2⟩ := lp (fun fu i (s : Int32 × Nat) => s_Mesh_hullArea_L4 pxs pys co (i32 t) fu s.1 (i32 i)) t (fun i s => s.2 ≤ t ∧ s_Mod_areaShare_L24 mnow o.2.1 (i32 t) (t + 1 - i) s.1 (i32 i) = s_Mod_areaShare_L24 mnow o.2.1 (i32 t) (t + 1) (0 : Int32) (0 : Int32)) (fun s => (s.1, i32 t))
    (fun fu s hs => by simp only [s_Mesh_hullArea_L4]; rw [if_pos (y_le (by omega) (by omega))])
    (fun fu i s hi ⟨_, hs⟩ => by
      obtain ⟨v, j, v1, v2, v3, v4, v5⟩ := q_area hC hM hO D.1.1 D.2.2.2.2.1 B.2.1 w6 hi
      refine ⟨(s.1 + v, 0), ⟨by omega, ?_⟩, ?_⟩
      · rw [← hs, show t + 1 - i = (t + 1 - (i + 1)) + 1 by omega]
        simp only [s_Mod_areaShare_L24, v1, Option.bind_some]
        rw [if_neg (n_le (by omega) hi), i32_s]
      · simp only [s_Mesh_hullArea_L4, v2]
        rw [if_neg (n_le (by omega) hi), i32_s])
    t 0 F (0, 0) (by omega) (by omega) ⟨by omega, rfl⟩
  have e2 : s_Mesh_hullArea_L4 pxs pys co (i32 t) F (0 : Int32) (0 : Int32) = some (s'.1, i32 t) := e2
  -- the two sums are one
  have mono : ∀ d i fu fv (x : Int32), i + d = t → d < fu → d < fv → s_Mod_areaShare_L24 mnow o.2.1 (i32 t) fu x (i32 i) = s_Mod_areaShare_L24 mnow o.2.1 (i32 t) fv x (i32 i) := by
    intro d
    induction d with
    | zero =>
      intro i fu fv x hi h1 h2
      obtain ⟨fu, rfl⟩ : ∃ j, fu = j + 1 := ⟨fu - 1, by omega⟩
      obtain ⟨fv, rfl⟩ : ∃ j, fv = j + 1 := ⟨fv - 1, by omega⟩
      have : i = t := by omega
      subst this
      simp only [s_Mod_areaShare_L24]
      rw [if_pos (y_le (by omega) (by omega)), if_pos (y_le (by omega) (by omega))]
    | succ d ih =>
      intro i fu fv x hi h1 h2
      obtain ⟨fu, rfl⟩ : ∃ j, fu = j + 1 := ⟨fu - 1, by omega⟩
      obtain ⟨fv, rfl⟩ : ∃ j, fv = j + 1 := ⟨fv - 1, by omega⟩
      obtain ⟨v, j, v1, _⟩ := q_area hC hM hO D.1.1 D.2.2.2.2.1 B.2.1 w6 (show i < t by omega)
      simp only [s_Mod_areaShare_L24, v1, Option.bind_some]
      rw [if_neg (n_le (by omega) (by omega)), if_neg (n_le (by omega) (by omega)), i32_s]
      exact ih (i + 1) fu fv _ (by omega) (by omega) (by omega)
  have ss : s'.1 = s := by
    have q1 := e1.2
    rw [show t + 1 - t = 1 by omega] at q1
    have q2 := mono t 0 (t + 1) F (0 : Int32) (by omega) (by omega) (by omega)
    have q2 : s_Mod_areaShare_L24 mnow o.2.1 (i32 t) (t + 1) (0 : Int32) (0 : Int32) = s_Mod_areaShare_L24 mnow o.2.1 (i32 t) F (0 : Int32) (0 : Int32) := q2
    rw [q2, s4] at q1
    simp only [s_Mod_areaShare_L24] at q1
    rw [if_pos (y_le (by omega) (by omega))] at q1
    injection q1 with q1
    injection q1
  obtain ⟨v, j, v1, v2, v3, v4, v5⟩ := q_area hC hM hO D.1.1 D.2.2.2.2.1 B.2.1 w6 ha
  have kp := s3 (by omega)
  have dv := ddiv_n v3 s1 (by omega) kp (by omega)
  have l1 : s_Law_areaShare F pxs pys co (i32 t) (i32 a) fd = some (0, vf_upd fd (0 : Int32).toNatClampNeg (FP.ddiv (FP.i2d v) (FP.i2d s))) := by
    unfold s_Law_areaShare s_Top_areaShare s_Mesh_hullArea
    rw [c_rtY (by omega) ha]
    simp only [Sum.elim_inr]
    rw [e2]
    simp only [Option.bind_some]
    rw [ss, if_neg (fun z => by rw [z] at s1; have q : (0 : Int32).toInt = 0 := rfl; omega), v2, dv]
    rfl
  have m1 : s_Mod_areaShare F mnow medg mcor (i32 a) = some (FP.ddiv (FP.i2d v) (FP.i2d s), 0, o.1, o.2.1, i32 t) := by
    unfold s_Mod_areaShare
    rw [hT]
    simp only [Option.bind_some]
    rw [if_neg (bI_t ⟨a, ha, rfl⟩), s4]
    simp only [Option.bind_some]
    rw [v1]
    simp only [Option.bind_some]
    rw [dv]
    rfl
  rw [← ha0] at l1 m1
  exact ⟨_, caseD _ l1 m1 (fun _ => by
    show (if (0 : Nat) = (0 : Int32).toNatClampNeg then _ else _) = _
    rw [if_pos (by decide)])⟩
theorem k_23 (cx : Cx F n m X Y L H pxs pys plo phi pn pm mnow (lf, th, ow, lk, el, eh, co, hu, ne, nt, nh) medg mcor) : ∃ out, s_case_23 F pn ne mnow medg mcor mtri fd = some out := by
  obtain ⟨hF, hC, hM, hO, o, hb, E, c, f, g, t, ta, tb, tc, T, hp, D, K, B⟩ := cx
  obtain ⟨k1, k2, k3, k4, k5, k6, k7, k8, k9, k10⟩ := K
  have hn := hO.1
  have hc := D.2.2.1
  have k8 : ne = i32 c := k8
  have e := hC.1
  subst k8; subst e
  by_cases z : n = 0
  · have l1 : s_Law_meanDegree (i32 n) (i32 c) fd = some (1, fd) := by
      unfold s_Law_meanDegree s_Top_meanDegree
      rw [if_pos (show s_Plan_points (i32 n) = 0 from (i32_0 (by omega)).2 z)]; rfl
    have m1 : s_Mod_meanDegree F mnow medg mcor mtri = some (FP.i2d 0, 1, medg, mcor, mtri) := by
      unfold s_Mod_meanDegree
      rw [m_n hM]
      simp only [Option.bind_some]
      rw [if_pos ((i32_0 (by omega)).2 z)]; rfl
    exact ⟨_, caseD _ l1 m1 (fun z => by cases z)⟩
  · have d2 : (2 : Int32) * i32 c = i32 (2 * c) := by rw [show (2 : Int32) = i32 2 from rfl, i32_mul]
    have dv := ddiv_n (i32_ti (k := 2 * c) (by omega)) (i32_ti (k := n) (by omega)) (by omega) (by omega) (by omega)
    have l1 : s_Law_meanDegree (i32 n) (i32 c) fd = some (0, vf_upd fd (0 : Int32).toNatClampNeg (FP.ddiv (FP.i2d (i32 (2 * c))) (FP.i2d (i32 n)))) := by
      unfold s_Law_meanDegree s_Top_meanDegree s_Mesh_edges s_Plan_points
      rw [if_neg (fun q => z ((i32_0 (by omega)).1 q)), d2, dv]; rfl
    have m1 : s_Mod_meanDegree F mnow medg mcor mtri = some (FP.ddiv (FP.i2d (i32 (2 * c))) (FP.i2d (i32 n)), 0, o.1, o.2.1, o.2.2) := by
      unfold s_Mod_meanDegree
      rw [m_n hM]
      simp only [Option.bind_some]
      rw [if_neg (fun q => z ((i32_0 (by omega)).1 q)), hb]
      simp only [Option.bind_some]
      rw [m_total hM hO D.1.1 B.1 hc D.2.2.2.1 F hF]
      simp only [Option.bind_some]
      rw [d2, dv]; rfl
    exact ⟨_, caseD _ l1 m1 (fun _ => by
      show (if (0 : Nat) = (0 : Int32).toNatClampNeg then _ else _) = _
      rw [if_pos (by decide)])⟩
theorem k_25 (hC : CP n m X Y L H pxs pys plo phi pn pm) (hM : MP n m X Y L H mnow) (hO : Ok n m X Y L H) : ∃ out, s_case_25 xs pxs pys pn mnow fl x5 = some out := by
  have hn := hO.1
  have an : ∀ a0 a1 a2 : Int32, ∃ v thr, s_Mod_turn mnow a0 a1 a2 = some (v, thr) ∧ An ["java/lang/IndexOutOfBoundsException"] (s_Top_turn pxs pys pn a0 a1 a2) v thr := by
    intro a0 a1 a2
    unfold s_Mod_turn s_Top_turn
    rw [m_isP hM hO, m_isP hM hO, m_isP hM hO, hC.1]
    simp only [Option.bind_some]
    by_cases h : ∃ a, a < n ∧ a0 = i32 a
    case neg => rw [if_pos (bI_f h), c_rpN hn h]; exact ⟨_, _, rfl, an_1 _ _ _⟩
    rw [if_neg (bI_t h)]
    obtain ⟨a, ha, rfl⟩ := h
    rw [c_rpY hn ha]
    simp only [Sum.elim_inr]
    by_cases h : ∃ a, a < n ∧ a1 = i32 a
    case neg => rw [if_pos (bI_f h), c_rpN hn h]; exact ⟨_, _, rfl, an_1 _ _ _⟩
    rw [if_neg (bI_t h)]
    obtain ⟨b, hb, rfl⟩ := h
    rw [c_rpY hn hb]
    simp only [Sum.elim_inr]
    by_cases h : ∃ a, a < n ∧ a2 = i32 a
    case neg => rw [if_pos (bI_f h), c_rpN hn h]; exact ⟨_, _, rfl, an_1 _ _ _⟩
    rw [if_neg (bI_t h)]
    obtain ⟨c, hc, rfl⟩ := h
    rw [c_rpY hn hc, m_turns hM hO ha hb hc, c_side hC hO ha hb hc]
    exact ⟨_, _, rfl, an_v _ _⟩
  obtain ⟨v, thr, h1, h2⟩ := an (xs (x5 + (1 : Int32)).toNatClampNeg) (xs (x5 + (2 : Int32)).toNatClampNeg) (xs (x5 + (3 : Int32)).toNatClampNeg)
  obtain ⟨fl', l1, l2⟩ := law1_an h2 fl
  exact ⟨_, caseG2 _ (show s_Law_turn pxs pys pn _ _ _ fl = some (thr, fl') from l1) h1 l2⟩
theorem k_26 (hC : CP n m X Y L H pxs pys plo phi pn pm) (hM : MP n m X Y L H mnow) (hO : Ok n m X Y L H) : ∃ out, s_case_26 xs pxs pys pn mnow fl x5 = some out := by
  have hn := hO.1
  have an : ∀ a0 a1 a2 a3 : Int32, ∃ v thr, s_Mod_inCircle mnow a0 a1 a2 a3 = some (v, thr) ∧ An ["java/lang/IndexOutOfBoundsException", "java/lang/ArithmeticException"] (s_Top_inCircle pxs pys pn a0 a1 a2 a3) v thr := by
    intro a0 a1 a2 a3
    unfold s_Mod_inCircle s_Top_inCircle
    rw [m_isP hM hO, m_isP hM hO, m_isP hM hO, m_isP hM hO, hC.1]
    simp only [Option.bind_some]
    by_cases h : ∃ a, a < n ∧ a0 = i32 a
    case neg => rw [if_pos (bI_f h), c_rpN hn h]; exact ⟨_, _, rfl, an_1 _ _ _⟩
    rw [if_neg (bI_t h)]
    obtain ⟨a, ha, rfl⟩ := h
    rw [c_rpY hn ha]
    simp only [Sum.elim_inr]
    by_cases h : ∃ a, a < n ∧ a1 = i32 a
    case neg => rw [if_pos (bI_f h), c_rpN hn h]; exact ⟨_, _, rfl, an_1 _ _ _⟩
    rw [if_neg (bI_t h)]
    obtain ⟨b, hb, rfl⟩ := h
    rw [c_rpY hn hb]
    simp only [Sum.elim_inr]
    by_cases h : ∃ a, a < n ∧ a2 = i32 a
    case neg => rw [if_pos (bI_f h), c_rpN hn h]; exact ⟨_, _, rfl, an_1 _ _ _⟩
    rw [if_neg (bI_t h)]
    obtain ⟨c, hc, rfl⟩ := h
    rw [c_rpY hn hc]
    simp only [Sum.elim_inr]
    by_cases h : ∃ a, a < n ∧ a3 = i32 a
    case neg => rw [if_pos (bI_f h), c_rpN hn h]; exact ⟨_, _, rfl, an_1 _ _ _⟩
    rw [if_neg (bI_t h)]
    obtain ⟨d, hd, rfl⟩ := h
    rw [c_rpY hn hd, m_turns hM hO ha hb hc, c_side hC hO ha hb hc, m_circ hM hO ha hb hc hd, c_circ hC hO ha hb hc hd]
    simp only [Sum.elim_inr, Option.bind_some]
    by_cases z : sg (dt (pt X Y a) (pt X Y b) (pt X Y c)) = 0
    · rw [if_pos z, if_pos z]; exact ⟨_, _, rfl, an_2 _ _ _ _⟩
    · rw [if_neg z, if_neg z]; exact ⟨_, _, rfl, an_v _ _⟩
  obtain ⟨v, thr, h1, h2⟩ := an (xs (x5 + (1 : Int32)).toNatClampNeg) (xs (x5 + (2 : Int32)).toNatClampNeg) (xs (x5 + (3 : Int32)).toNatClampNeg) (xs (x5 + (4 : Int32)).toNatClampNeg)
  obtain ⟨fl', l1, l2⟩ := law2_an h2 (by decide) fl
  exact ⟨_, caseG2 _ (show s_Law_inCircle pxs pys pn _ _ _ _ fl = some (thr, fl') from l1) h1 l2⟩
/-- whether an edge is good, on both sides -/
theorem q_good (hC : CP n m X Y L H pxs pys plo phi pn pm) (hM : MP n m X Y L H mnow) (hO : Ok n m X Y L H) (G : Ge n (pt X Y) E) (hE : ME medg E) (hT : TH n (pt X Y) E th) (hF : 300 ≤ F) {a b : Nat} (hab : E a b) :
    (s_Mod_goodOf F mnow medg (i32 a) (i32 b) = some (-1 : Int32) ∧ s_Mesh_isInner th (i32 a) (i32 b) = false) ∨
    (s_Mod_goodOf F mnow medg (i32 a) (i32 b) = some (0 : Int32) ∧ s_Mesh_isInner th (i32 a) (i32 b) = true ∧ s_Mesh_passesCircle pxs pys th (i32 a) (i32 b) = false) ∨
    (s_Mod_goodOf F mnow medg (i32 a) (i32 b) = some (1 : Int32) ∧ s_Mesh_isInner th (i32 a) (i32 b) = true ∧ s_Mesh_passesCircle pxs pys th (i32 a) (i32 b) = true) := by
  have hn := hO.1
  obtain ⟨ha, hb, _, eba⟩ := G.2.2.1 a b hab
  obtain ⟨x, hx, ax⟩ := m_apex hM hO hE G F hF hab
  obtain ⟨y, hy, ay⟩ := m_apex hM hO hE G F hF eba
  have inn := c_inner hn G hT (show a < 16 by omega) (show b < 16 by omega)
  unfold s_Mod_goodOf
  rw [hx, hy, inn]
  simp only [Option.bind_some]
  rcases ax with ⟨c, h, rfl⟩ | ⟨h, rfl⟩
  case inr => left; rw [if_pos (by decide)]; exact ⟨rfl, dB_f (fun z => z.1.elim h)⟩
  have lc := ap_lt G h
  rw [if_neg (i32_neg (by omega))]
  rcases ay with ⟨d, k, rfl⟩ | ⟨k, rfl⟩
  case inr => left; rw [if_neg (by decide)]; exact ⟨rfl, dB_f (fun z => z.2.elim k)⟩
  have ld := ap_lt G k
  right
  rw [if_pos (i32_nn (by omega)), m_good hM hO ha hb lc.2.2.1 ld.2.2.1 h.2.2.2.1, c_pass hC hO G hT h k]
  simp only [Option.bind_some]
  by_cases z : Bd (pt X Y) a b c d
  · left
    rw [if_pos (bI_f (fun w => w z))]
    exact ⟨rfl, dB_t ⟨⟨c, h⟩, d, k⟩, dB_f (fun w => w z)⟩
  · right
    rw [if_neg (bI_t z)]
    exact ⟨rfl, dB_t ⟨⟨c, h⟩, d, k⟩, dB_t z⟩
theorem k_27 (cx : Cx F n m X Y L H pxs pys plo phi pn pm mnow (lf, th, ow, lk, el, eh, co, hu, ne, nt, nh) medg mcor) {mnum : Nat → Int32} : ∃ out, s_case_27 F xs pxs pys th el eh ne mnow medg mcor mnum fl x5 = some out := by
  obtain ⟨hF, hC, hM, hO, o, hb, E, c, f, g, t, ta, tb, tc, T, hp, D, K, B⟩ := cx
  obtain ⟨k1, k2, k3, k4, k5, k6, k7, k8, k9, k10⟩ := K
  have hc := D.2.2.1
  have w5 : EdR c f g el eh := k5
  have w2 : TH n (pt X Y) E th := k2
  have k8 : ne = i32 c := k8
  subst k8
  generalize ha0 : xs (x5 + (1 : Int32)).toNatClampNeg = a0
  obtain ⟨r, r1, r2⟩ := m_edge hM hO D.1.1 B.1 hc D.2.2.2.1 F hF mnum a0
  have fin : ∀ thr fl' (v : Bool) (a : (Nat → Int32) × (Nat → Int32) × Int32 × (Nat → Int32)), s_Law_isGood pxs pys th el eh (i32 c) a0 fl = some (thr, fl') → s_Mod_isGood F mnow medg mcor mnum a0 = some (v, thr, a) → (thr = 0 → fl' 0 = if v then (1 : Int64) else 0) →
      ∃ out, s_case_27 F xs pxs pys th el eh (i32 c) mnow medg mcor mnum fl x5 = some out := by
    intro thr fl' v a h1 h2 h3
    unfold s_case_27
    rw [ha0, h1, h2]
    simp only [Option.bind_some]
    rw [if_pos (show s_Mod_thrown thr = thr from rfl)]
    by_cases z : thr = 0
    · rw [if_pos z]
      have e : fl' (0 : Int32).toNatClampNeg = if v then (1 : Int64) else 0 := h3 z
      cases v with
      | false => rw [if_pos (show bI false = 0 from rfl), e, if_pos (by rw [if_neg (by decide)]; exact lgc _)]; exact ⟨_, rfl⟩
      | true => rw [if_neg (by decide), e, if_pos (by rw [if_pos rfl]; exact lgc _)]; exact ⟨_, rfl⟩
    · rw [if_neg z]; exact ⟨_, rfl⟩
  rcases r2 with ⟨a, ha, rfl, q1, q2, q3⟩ | ⟨h, q1⟩
  case inr =>
    refine fin 1 fl false (o.1, o.2.1, o.2.2, r.2) ?_ ?_ (fun z => by cases z)
    · unfold s_Law_isGood s_Top_isGood
      rw [c_reN (by omega) h]; rfl
    · unfold s_Mod_isGood
      rw [hb]
      simp only [Option.bind_some]
      rw [r1]
      simp only [Option.bind_some]
      rw [q1, if_pos (show bI false = 0 from rfl)]
  obtain ⟨f1, f2, f3, f4⟩ := fg_lt D.1.1 D.2.2.2.1 ha
  have e1 : s_Mesh_lowEnd el (i32 a) = i32 (f a) := by unfold s_Mesh_lowEnd; rw [rget el (by omega) (by omega), (w5 a ha).1]
  have e2 : s_Mesh_highEnd eh (i32 a) = i32 (g a) := by unfold s_Mesh_highEnd; rw [rget eh (by omega) (by omega), (w5 a ha).2]
  have g0 : aget 2 r.2 (0 : Int32) = some (i32 (f a)) := by rw [← q2]; exact aget_i r.2 (show 0 < 2 by omega) (by omega)
  have g1 : aget 2 r.2 (1 : Int32) = some (i32 (g a)) := by rw [← q3]; exact aget_i r.2 (show 1 < 2 by omega) (by omega)
  have md : ∀ x : Int32, s_Mod_goodOf F mnow o.1 (i32 (f a)) (i32 (g a)) = some x → s_Mod_isGood F mnow medg mcor mnum (i32 a) = (if 0 ≤ x then (if x = (1 : Int32) then some (true, (0 : Int32), o.1, o.2.1, o.2.2, r.2) else some (false, (0 : Int32), o.1, o.2.1, o.2.2, r.2)) else
      if x = (1 : Int32) then some (true, (2 : Int32), o.1, o.2.1, o.2.2, r.2) else some (false, (2 : Int32), o.1, o.2.1, o.2.2, r.2)) := by
    intro x hx
    unfold s_Mod_isGood
    rw [hb]
    simp only [Option.bind_some]
    rw [r1]
    simp only [Option.bind_some]
    rw [q1, if_neg (by decide), g0, g1]
    simp only [Option.bind_some]
    rw [hx]
    simp only [Option.bind_some]
  rcases q_good hC hM hO D.1.1 B.1 w2 hF f4 with ⟨x1, x2⟩ | ⟨x1, x2, x3⟩ | ⟨x1, x2, x3⟩
  · refine fin 2 fl false (o.1, o.2.1, o.2.2, r.2) ?_ ?_ (fun z => by cases z)
    · unfold s_Law_isGood s_Top_isGood
      rw [c_reY (by omega) ha, e1, e2, x2]
      simp only [Sum.elim_inr]
      rw [if_pos (show bI false = 0 from rfl)]; rfl
    · rw [md _ x1, if_neg (by decide), if_neg (by decide)]
  · refine fin 0 (vp_updL fl (0 : Int32).toNatClampNeg (0 : Int64)) false (o.1, o.2.1, o.2.2, r.2) ?_ ?_ (fun _ => ?_)
    · unfold s_Law_isGood s_Top_isGood
      rw [c_reY (by omega) ha, e1, e2, x2, x3]
      simp only [Sum.elim_inr]
      rw [if_neg (by decide)]; rfl
    · rw [md _ x1, if_pos (by decide), if_neg (by decide)]
    · show (if (0 : Nat) = (0 : Int32).toNatClampNeg then (0 : Int64) else _) = _
      rw [if_pos (by decide)]; rfl
  · refine fin 0 (vp_updL fl (0 : Int32).toNatClampNeg (1 : Int64)) true (o.1, o.2.1, o.2.2, r.2) ?_ ?_ (fun _ => ?_)
    · unfold s_Law_isGood s_Top_isGood
      rw [c_reY (by omega) ha, e1, e2, x2, x3]
      simp only [Sum.elim_inr]
      rw [if_neg (by decide)]; rfl
    · rw [md _ x1, if_pos (by decide), if_pos rfl]
    · show (if (0 : Nat) = (0 : Int32).toNatClampNeg then (1 : Int64) else _) = _
      rw [if_pos (by decide)]; rfl
theorem k_28 (cx : Cx F n m X Y L H pxs pys plo phi pn pm mnow (lf, th, ow, lk, el, eh, co, hu, ne, nt, nh) medg mcor) : ∃ out, s_case_28 F pxs pys plo phi pm th mnow medg mcor = some out := by
  obtain ⟨hF, hC, hM, hO, o, hb, E, c, f, g, t, ta, tb, tc, T, hp, D, K, B⟩ := cx
  obtain ⟨k1, k2, k3, k4, k5, k6, k7, k8, k9, k10⟩ := K
  have w2 : TH n (pt X Y) E th := k2
  have hm := hO.2.1
  obtain ⟨s, s', q1, q2, q3⟩ := lpTwo (fun fu i (s : Nat) => s_Top_forcedConstraints_L4 pxs pys plo phi pm th fu (i32 s) (i32 i)) (fun fu i (s : Nat) => s_Mod_forcedConstraints_L13 F mnow o.1 fu (i32 s) (i32 i)) m
    (fun i s t => s = t) (fun s => (i32 s, i32 m)) (fun s => (i32 s, i32 m))
    (fun k s t h => by simp only [s_Top_forcedConstraints_L4, s_Plan_constraints, hC.2.1]; rw [if_pos (y_le (by omega) (by omega))])
    (fun k s t h => by simp only [s_Mod_forcedConstraints_L13, m_m hM, Option.bind_some]; rw [if_pos (y_le (by omega) (by omega))])
    (fun i s t hi h => by
      subst h
      have e1 : s_Plan_lowEnd plo (i32 i) = i32 (L i) := by unfold s_Plan_lowEnd; rw [rget plo (by omega) (by omega), (hC.2.2.2 i hi).1]
      have e2 : s_Plan_highEnd phi (i32 i) = i32 (H i) := by unfold s_Plan_highEnd; rw [rget phi (by omega) (by omega), (hC.2.2.2 i hi).2]
      rcases q_good hC hM hO D.1.1 B.1 w2 hF (D.2.1 i hi) with ⟨x1, x2⟩ | ⟨x1, x2, x3⟩ | ⟨x1, x2, x3⟩
      · refine ⟨s, s, rfl, fun k => ?_, fun k => ?_⟩
        · simp only [s_Top_forcedConstraints_L4, s_Plan_constraints, hC.2.1, e1, e2, x2]
          rw [if_neg (n_le (by omega) hi), if_pos (show bI false = 0 from rfl), i32_s]
        · simp only [s_Mod_forcedConstraints_L13, m_m hM, Option.bind_some, m_end0 hM hO hi, m_end1 hM hO hi, x1]
          rw [if_neg (n_le (by omega) hi), if_neg (by decide), i32_s]
      · refine ⟨s + 1, s + 1, rfl, fun k => ?_, fun k => ?_⟩
        · simp only [s_Top_forcedConstraints_L4, s_Plan_constraints, hC.2.1, e1, e2, x2, x3]
          rw [if_neg (n_le (by omega) hi), if_neg (by decide), if_pos (show bI false = 0 from rfl), i32_s, i32_s]
        · simp only [s_Mod_forcedConstraints_L13, m_m hM, Option.bind_some, m_end0 hM hO hi, m_end1 hM hO hi, x1]
          rw [if_neg (n_le (by omega) hi), if_pos trivial, i32_s, i32_s]
      · refine ⟨s, s, rfl, fun k => ?_, fun k => ?_⟩
        · simp only [s_Top_forcedConstraints_L4, s_Plan_constraints, hC.2.1, e1, e2, x2, x3]
          rw [if_neg (n_le (by omega) hi), if_neg (by decide), if_neg (by decide), i32_s]
        · simp only [s_Mod_forcedConstraints_L13, m_m hM, Option.bind_some, m_end0 hM hO hi, m_end1 hM hO hi, x1]
          rw [if_neg (n_le (by omega) hi), if_neg (by decide), i32_s])
    m 0 F F 0 0 (by omega) (by omega) (by omega) rfl
  subst q1
  have q2 : s_Top_forcedConstraints_L4 pxs pys plo phi pm th F (0 : Int32) (0 : Int32) = some (i32 s, i32 m) := q2
  have q3 : s_Mod_forcedConstraints_L13 F mnow o.1 F (0 : Int32) (0 : Int32) = some (i32 s, i32 m) := q3
  unfold s_case_28 s_Top_forcedConstraints s_Mod_forcedConstraints
  rw [q2, hb]
  simp only [Option.bind_some]
  rw [q3]
  simp only [Option.bind_some]
  exact ⟨_, if_pos trivial⟩
end ASK5

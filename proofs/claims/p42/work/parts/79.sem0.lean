/-! the answers of an object as functions of the reference's numbers (for p42) -/
abbrev zf : Nat → Int32 := fun _ => 0
def anv (v thr : Int32) : Int32 := if thr = 0 then v else (-1000 : Int32) - thr
def av {α : Type} (r : Option (Int32 × Int32 × α)) : Int32 := r.elim 0 (fun q => anv q.1 q.2.1)
def av0 (r : Option (Int32 × Int32)) : Int32 := r.elim 0 (fun q => anv q.1 q.2)
def avB {α : Type} (r : Option (Bool × Int32 × α)) : Int32 := r.elim 0 (fun q => anv (bI q.1) q.2.1)
def cv {α : Type} (r : Option (Int32 × α)) : Int32 := r.elim 0 (fun q => q.1)
theorem i64_inj {a b : Int32} (h : a.toInt64 = b.toInt64) : a = b := by
  have := congrArg Int64.toInt h
  rw [Int32.toInt_toInt64, Int32.toInt_toInt64] at this
  exact Int32.toInt_inj.mp this
theorem an_one {c1 : String} {r : String ⊕ Int32} {v thr : Int32} (h : An [c1] r v thr) : (r = .inl c1 ∧ anv v thr = (-1001 : Int32)) ∨ (r = .inr v ∧ anv v thr = v) := by
  rcases h with ⟨k, s, h1, h2, rfl, rfl⟩ | ⟨rfl, rfl⟩
  · rcases k with _ | k
    · simp at h1
      subst h1
      exact Or.inl ⟨rfl, rfl⟩
    · simp at h1
  · exact Or.inr ⟨rfl, if_pos rfl⟩
theorem an_two {c1 c2 : String} {r : String ⊕ Int32} {v thr : Int32} (h : An [c1, c2] r v thr) : (r = .inl c1 ∧ anv v thr = (-1001 : Int32)) ∨ (r = .inl c2 ∧ anv v thr = (-1002 : Int32)) ∨ (r = .inr v ∧ anv v thr = v) := by
  rcases h with ⟨k, s, h1, h2, rfl, rfl⟩ | ⟨rfl, rfl⟩
  · rcases k with _ | k
    · simp at h1
      subst h1
      exact Or.inl ⟨rfl, rfl⟩
    · rcases k with _ | k
      · simp at h1
        subst h1
        exact Or.inr (Or.inl ⟨rfl, rfl⟩)
      · simp at h1
  · exact Or.inr (Or.inr ⟨rfl, if_pos rfl⟩)
theorem h1_an {c1 : String} {r : String ⊕ Int32} {v thr : Int32} {S : TopS} (h : An [c1] r v thr) : (Sum.elim (fun E => if E = c1 then some ((-1001 : Int32), S) else none) (fun q => some (q, S)) r : Option (Int32 × TopS)) = some (anv v thr, S) := by
  rcases an_one h with ⟨rfl, e⟩ | ⟨rfl, e⟩
  · rw [e]; simp only [Sum.elim_inl]; rw [if_pos trivial]
  · rw [e]; rfl
theorem h2_an {c1 c2 : String} {r : String ⊕ Int32} {v thr : Int32} {S : TopS} (h : An [c1, c2] r v thr) (hc : c1 ≠ c2) : (Sum.elim (fun E => if E = c1 then some ((-1001 : Int32), S) else if E = c2 then some ((-1002 : Int32), S) else none) (fun q => some (q, S)) r : Option (Int32 × TopS)) = some (anv v thr, S) := by
  rcases an_two h with ⟨rfl, e⟩ | ⟨rfl, e⟩ | ⟨rfl, e⟩
  · rw [e]; simp only [Sum.elim_inl]; rw [if_pos trivial]
  · rw [e]; simp only [Sum.elim_inl]; rw [if_neg (fun z => hc z.symm), if_pos trivial]
  · rw [e]; rfl
/-- an object that stands beside the reference's numbers g -/
def J (F : Nat) (S : TopS) (g : Nat → Int32) : Prop := PR S.1 g ∧ Dw F S.1 S.2.1
theorem J.ci {F : Nat} {S : TopS} {g : Nat → Int32} (h : J F S g) : CI F S.1 S.2.1 S.2.2.2.2.2.2.1.1 0 0 g zf 0 := ⟨h.1, h.2, 0, 0, by omega, by omega, rfl, rfl, rfl, fun j hj => by omega⟩
/-- the same object, but for its trial -/
def Qs (S T : TopS) : Prop := T.1 = S.1 ∧ T.2.1 = S.2.1 ∧ T.2.2.2.2 = S.2.2.2.2
theorem Qs.rf (S : TopS) : Qs S S := ⟨rfl, rfl, rfl⟩
theorem Qs.tr {S T U : TopS} (h : Qs S T) (k : Qs T U) : Qs S U := ⟨k.1.trans h.1, k.2.1.trans h.2.1, k.2.2.trans h.2.2⟩
theorem qs_J {F : Nat} {S T : TopS} {g : Nat → Int32} (h : Qs S T) (k : J F S g) : J F T g := by
  unfold J
  rw [h.1, h.2.1]
  exact k
section SEM0
variable {F : Nat} {S : TopS} {g : Nat → Int32}
theorem j_cx (h : J F S g) (hF : 1000 ≤ F) : ∃ n m X Y L H, CP n m X Y L H S.1.1 S.1.2.1 S.1.2.2.1 S.1.2.2.2.1 S.1.2.2.2.2.1 S.1.2.2.2.2.2 ∧ MP n m X Y L H g ∧ Ok n m X Y L H ∧ (n = 0 → S.2.1.2.2.2.2.2.2.2.2.1 = i32 0 ∧ S.2.1.2.2.2.2.2.2.2.2.2.1 = i32 0 ∧ S.1.2.2.2.2.2 = i32 0) ∧ ∃ th1 ow1 : Nat → Int32, (0 < n → th1 = S.2.1.2.1 ∧ ow1 = S.2.1.2.2.1) ∧ Cx F n m X Y L H S.1.1 S.1.2.1 S.1.2.2.1 S.1.2.2.2.1 S.1.2.2.2.2.1 S.1.2.2.2.2.2 g (S.2.1.1, th1, ow1, S.2.1.2.2.2.1, S.2.1.2.2.2.2.1, S.2.1.2.2.2.2.2.1, S.2.1.2.2.2.2.2.2.1, S.2.1.2.2.2.2.2.2.2.1, S.2.1.2.2.2.2.2.2.2.2.1, S.2.1.2.2.2.2.2.2.2.2.2.1, S.2.1.2.2.2.2.2.2.2.2.2.2) zf zf := by
  have ci := h.ci
  exact cx_ci (pxs := S.1.1) (pys := S.1.2.1) (plo := S.1.2.2.1) (phi := S.1.2.2.2.1) (pn := S.1.2.2.2.2.1) (pm := S.1.2.2.2.2.2) (lf := S.2.1.1) (th := S.2.1.2.1) (ow := S.2.1.2.2.1) (lk := S.2.1.2.2.2.1) (el := S.2.1.2.2.2.2.1) (eh := S.2.1.2.2.2.2.2.1) (co := S.2.1.2.2.2.2.2.2.1) (hu := S.2.1.2.2.2.2.2.2.2.1) (ne := S.2.1.2.2.2.2.2.2.2.2.1) (nt := S.2.1.2.2.2.2.2.2.2.2.2.1) (nh := S.2.1.2.2.2.2.2.2.2.2.2.2) ci hF zf zf
theorem qq_points (h : J F S g) (hF : 1000 ≤ F) : i_pointCount S = g 0 ∧ ∃ n : Nat, n ≤ 16 ∧ g 0 = i32 n := by
  obtain ⟨n, m, X, Y, L, H, hC, hM, hO, -⟩ := j_cx h hF
  exact ⟨hC.1.trans hM.1.symm, n, hO.1, hM.1⟩
theorem qq_cons (h : J F S g) (hF : 1000 ≤ F) : i_constraintCount S = g 1 ∧ ∃ n : Nat, n ≤ 10 ∧ g 1 = i32 n := by
  obtain ⟨n, m, X, Y, L, H, hC, hM, hO, -⟩ := j_cx h hF
  exact ⟨hC.2.1.trans hM.2.1.symm, m, hO.2.1, hM.2.1⟩
theorem qq_tris (h : J F S g) (hF : 1000 ≤ F) : i_triangleCount S = cv (s_Mod_triangleCount F g zf zf) := by
  obtain ⟨n, m, X, Y, L, H, hC, hM, hO, z, th1, ow1, y, cx⟩ := j_cx h hF
  obtain ⟨out, k⟩ := k_11 cx
  unfold s_case_11 at k
  obtain ⟨v1, e1, k⟩ := ob k
  rw [e1]
  by_cases c : s_Top_triangleCount S.2.1.2.2.2.2.2.2.2.2.2.1 = v1.1
  · exact c
  · rw [if_neg c] at k; cases k
theorem qq_edges (h : J F S g) (hF : 1000 ≤ F) : i_edgeCount S = cv (s_Mod_edgeCount F g zf zf) := by
  obtain ⟨n, m, X, Y, L, H, hC, hM, hO, z, th1, ow1, y, cx⟩ := j_cx h hF
  obtain ⟨out, k⟩ := k_14 cx
  unfold s_case_14 at k
  obtain ⟨v1, e1, k⟩ := ob k
  rw [e1]
  by_cases c : s_Top_edgeCount S.2.1.2.2.2.2.2.2.2.2.1 = v1.1
  · exact c
  · rw [if_neg c] at k; cases k
theorem qq_hulls (h : J F S g) (hF : 1000 ≤ F) : i_hullSize S = cv (s_Mod_hullSize F g zf zf) := by
  obtain ⟨n, m, X, Y, L, H, hC, hM, hO, z, th1, ow1, y, cx⟩ := j_cx h hF
  obtain ⟨out, k⟩ := k_19 cx
  unfold s_case_19 at k
  obtain ⟨v1, e1, k⟩ := ob k
  rw [e1]
  by_cases c : s_Top_hullSize S.2.1.2.2.2.2.2.2.2.2.2.2 = v1.1
  · exact c
  · rw [if_neg c] at k; cases k
theorem b_tris (h : J F S g) (hF : 1000 ≤ F) : ∃ t : Nat, t ≤ 27 ∧ i_triangleCount S = i32 t := by
  obtain ⟨n, m, X, Y, L, H, hC, hM, hO, z, th1, ow1, y, hF3, -, -, -, o, hb, E, c, f, gg, t, ta, tb, tc, T, hp, D, K, B⟩ := j_cx h hF
  obtain ⟨k1, k2, k3, k4, k5, k6, k7, k8, k9, k10⟩ := K
  exact ⟨t, D.2.2.2.2.1.1, k9⟩
theorem b_edges (h : J F S g) (hF : 1000 ≤ F) : ∃ c : Nat, c ≤ 42 ∧ i_edgeCount S = i32 c := by
  obtain ⟨n, m, X, Y, L, H, hC, hM, hO, z, th1, ow1, y, hF3, -, -, -, o, hb, E, c, f, gg, t, ta, tb, tc, T, hp, D, K, B⟩ := j_cx h hF
  obtain ⟨k1, k2, k3, k4, k5, k6, k7, k8, k9, k10⟩ := K
  exact ⟨c, D.2.2.1, k8⟩
theorem qq_coordinate (h : J F S g) (hF : 1000 ≤ F) (a0 a1 : Int32) : s_h_coordinate F S a0 a1 = some (av0 (s_Mod_coordinate g a0 a1), S) := by
  obtain ⟨n, m, X, Y, L, H, hC, hM, hO, z, th1, ow1, y, cx⟩ := j_cx h hF
  obtain ⟨v, thr, e1, ha⟩ := an_coord hC hM hO a0 a1
  unfold s_h_coordinate
  rw [e1]
  exact h2_an ha (by decide)
theorem qq_tied (h : J F S g) (hF : 1000 ≤ F) (a0 a1 : Int32) : s_h_tied F S a0 a1 = some (av0 (s_Mod_constraintEnd g a0 a1), S) := by
  obtain ⟨n, m, X, Y, L, H, hC, hM, hO, z, th1, ow1, y, cx⟩ := j_cx h hF
  obtain ⟨v, thr, e1, ha⟩ := an_cend hC hM hO a0 a1
  unfold s_h_tied
  rw [e1]
  exact h2_an ha (by decide)
theorem qq_corner (h : J F S g) (hF : 1000 ≤ F) (a0 a1 : Int32) : s_h_corner F S a0 a1 = some (av (s_Mod_corner F g zf zf a0 a1), S) := by
  obtain ⟨n, m, X, Y, L, H, hC, hM, hO, z, th1, ow1, y, cx⟩ := j_cx h hF
  obtain ⟨v, thr, r, e1, ha⟩ := an_corner cx a0 a1
  unfold s_h_corner
  rw [e1]
  exact h2_an ha (by decide)
theorem qq_beyond (h : J F S g) (hF : 1000 ≤ F) (a0 a1 : Int32) : s_h_beyond F S a0 a1 = some (av (s_Mod_beyond F g zf zf a0 a1), S) := by
  obtain ⟨n, m, X, Y, L, H, hC, hM, hO, z, th1, ow1, y, cx⟩ := j_cx h hF
  obtain ⟨v, thr, r, e1, ha⟩ := an_beyond cx a0 a1
  have ha : An ["java/lang/IndexOutOfBoundsException", "java/lang/IllegalArgumentException"] (s_Top_beyond S.2.1.2.2.1 S.2.1.2.2.2.2.2.2.1 S.2.1.2.2.2.2.2.2.2.2.2.1 a0 a1) v thr := by
    by_cases n0 : n = 0
    · obtain ⟨z1, z2, z3⟩ := z n0
      rw [z2] at ha ⊢
      unfold s_Top_beyond at ha ⊢
      rw [n0_t] at ha ⊢
      exact ha
    · rw [← (y (by omega)).2]; exact ha
  unfold s_h_beyond
  rw [e1]
  exact h2_an ha (by decide)
theorem qq_end (h : J F S g) (hF : 1000 ≤ F) (a0 a1 : Int32) : s_h_end F S a0 a1 = some (av (s_Mod_edgeEnd F g zf zf zf a0 a1), S) := by
  obtain ⟨n, m, X, Y, L, H, hC, hM, hO, z, th1, ow1, y, cx⟩ := j_cx h hF
  obtain ⟨v, thr, r, e1, ha⟩ := an_eend cx zf a0 a1
  unfold s_h_end
  rw [e1]
  exact h2_an ha (by decide)
theorem qq_degree (h : J F S g) (hF : 1000 ≤ F) (a0 : Int32) : s_h_degree F S a0 = some (av (s_Mod_degree F g zf zf 0 a0), S) := by
  obtain ⟨n, m, X, Y, L, H, hC, hM, hO, z, th1, ow1, y, cx⟩ := j_cx h hF
  obtain ⟨v, thr, r, e1, ha⟩ := an_deg cx 0 a0
  unfold s_h_degree
  rw [e1]
  exact h1_an ha
theorem qq_hull (h : J F S g) (hF : 1000 ≤ F) (a0 : Int32) : s_h_hull F S a0 = some (av (s_Mod_hullPoint F g zf zf a0), S) := by
  obtain ⟨n, m, X, Y, L, H, hC, hM, hO, z, th1, ow1, y, cx⟩ := j_cx h hF
  obtain ⟨v, thr, r, e1, ha⟩ := an_hullp cx a0
  unfold s_h_hull
  rw [e1]
  exact h1_an ha
theorem qq_area (h : J F S g) (hF : 1000 ≤ F) (a0 : Int32) : s_h_area F S a0 = some (av (s_Mod_twiceArea F g zf zf a0), S) := by
  obtain ⟨n, m, X, Y, L, H, hC, hM, hO, z, th1, ow1, y, cx⟩ := j_cx h hF
  obtain ⟨v, thr, r, e1, ha⟩ := an_area cx a0
  unfold s_h_area
  rw [e1]
  exact h1_an ha
theorem qq_square (h : J F S g) (hF : 1000 ≤ F) (a0 : Int32) : s_h_square F S a0 = some (av (s_Mod_squaredLength F g zf zf 0 zf a0), S) := by
  obtain ⟨n, m, X, Y, L, H, hC, hM, hO, z, th1, ow1, y, cx⟩ := j_cx h hF
  obtain ⟨v, thr, r, q, e1, e2, ha⟩ := an_sql (mmet := zf) cx 0 a0
  unfold s_h_square
  rw [e2]
  simp only [Option.bind_some]
  rw [e1]
  exact h2_an ha (by decide)
theorem an_law2 {c1 c2 : String} {r : String ⊕ Int32} {fl fl' : Nat → Int64} {v thr : Int32} (h : law2 c1 c2 r fl = some (thr, fl')) (hv : thr = 0 → fl' 0 = v.toInt64) : An [c1, c2] r v thr := by
  unfold law2 at h
  cases r with
  | inl E =>
    have h := se_l h
    by_cases c : E = c1
    · have h := it_t c h
      have e := congrArg Prod.fst (Option.some.inj h)
      subst c
      have e : (1 : Int32) = thr := e
      subst e
      exact an_1 _ _ _
    · have h := it_f c h
      by_cases d : E = c2
      · have h := it_t d h
        have e := congrArg Prod.fst (Option.some.inj h)
        subst d
        have e : (2 : Int32) = thr := e
        subst e
        exact an_2 _ _ _ _
      · have h := it_f d h
        cases h
  | inr q =>
    have h : some ((0 : Int32), vp_updL fl (0 : Int32).toNatClampNeg q.toInt64) = some (thr, fl') := h
    have h := Option.some.inj h
    have e : (0 : Int32) = thr := congrArg Prod.fst h
    have k : vp_updL fl (0 : Int32).toNatClampNeg q.toInt64 = fl' := congrArg Prod.snd h
    subst e
    have := hv rfl
    rw [← k, upd0] at this
    rw [i64_inj this]
    exact an_v _ _
theorem cmp_eq {x y : Int64} (h : lg_cmp x y = 0) : x = y := by
  unfold lg_cmp at h
  by_cases c : x > y
  · rw [if_pos c] at h; cases h
  · rw [if_neg c] at h
    by_cases d : x = y
    · exact d
    · rw [if_neg d] at h; cases h
theorem caseG_inv {A B : Type} {law : Option (Int32 × (Nat → Int64))} {mod : Option (Int32 × Int32 × A)} (f : (Int32 × (Nat → Int64)) → (Int32 × Int32 × A) → B) {out : B}
    (h : (law.bind fun v1 => mod.bind fun v2 => if (s_Mod_thrown v2.2.1) = v1.1 then (if v1.1 = 0 then (if (lg_cmp (v1.2 (0 : Int32).toNatClampNeg) (v2.1.toInt64)) = 0 then some (f v1 v2) else none) else some (f v1 v2)) else none) = some out) :
    ∃ v thr a fl', law = some (thr, fl') ∧ mod = some (v, thr, a) ∧ (thr = 0 → fl' 0 = v.toInt64) := by
  obtain ⟨v1, h1, h⟩ := ob h
  obtain ⟨v2, h2, h⟩ := ob h
  by_cases c : s_Mod_thrown v2.2.1 = v1.1
  · rw [if_pos c] at h
    have c : v2.2.1 = v1.1 := c
    refine ⟨v2.1, v2.2.1, v2.2.2, v1.2, ?_, h2, fun z => ?_⟩
    · rw [h1, c]
    · rw [if_pos (c.symm.trans z)] at h
      by_cases d : lg_cmp (v1.2 (0 : Int32).toNatClampNeg) v2.1.toInt64 = 0
      · exact cmp_eq d
      · rw [if_neg d] at h; cases h
  · rw [if_neg c] at h; cases h
def xs2 (a0 a1 : Int32) : Nat → Int32 := fun k => if k = 1 then a0 else a1
theorem xs2_1 (a0 a1 : Int32) : xs2 a0 a1 ((0 : Int32) + (1 : Int32)).toNatClampNeg = a0 := if_pos (by decide)
theorem xs2_2 (a0 a1 : Int32) : xs2 a0 a1 ((0 : Int32) + (2 : Int32)).toNatClampNeg = a1 := if_neg (by decide)
theorem qq_number (h : J F S g) (hF : 1000 ≤ F) (a0 a1 : Int32) : s_h_number F S a0 a1 = some (av (s_Mod_numberAt F g zf zf 0 a0 a1), S) := by
  obtain ⟨n, m, X, Y, L, H, hC, hM, hO, z, th1, ow1, y, cx⟩ := j_cx h hF
  obtain ⟨out, k⟩ := k_30 (xs := xs2 a0 a1) (x5 := 0) (fl := fun _ => 0) (mtri := 0) cx
  unfold s_case_30 at k
  rw [xs2_1, xs2_2] at k
  obtain ⟨v, thr, a, fl', l1, l2, l3⟩ := caseG_inv (fun (v1 : Int32 × (Nat → Int64)) (v2 : Int32 × Int32 × (Nat → Int32) × (Nat → Int32) × Int32) => (v2.2.1, v2.2.2.1, v2.2.2.2.1, v2.2.2.2.2, v1.2)) k
  unfold s_Law_numberAt at l1
  obtain ⟨q, e2, l1⟩ := ob l1
  have ha := an_law2 (c1 := "java/lang/IllegalArgumentException") (c2 := "java/util/NoSuchElementException") l1 l3
  unfold s_h_number
  rw [e2]
  simp only [Option.bind_some]
  rw [l2]
  exact h2_an ha (by decide)
theorem caseB_inv {A B : Type} {r : String ⊕ Bool} {fl : Nat → Int64} {mod : Option (Bool × Int32 × A)} (f : (Int32 × (Nat → Int64)) → (Bool × Int32 × A) → B) {out : B} {c1 c2 : String} {S : TopS} (hc : c1 ≠ c2)
    (h : ((Sum.elim (fun E => if E = c1 then some ((1 : Int32), fl) else if E = c2 then some ((2 : Int32), fl) else none) (fun q => if bI q = 0 then some ((0 : Int32), vp_updL fl (0 : Int32).toNatClampNeg (0 : Int64)) else some ((0 : Int32), vp_updL fl (0 : Int32).toNatClampNeg (1 : Int64))) r : Option (Int32 × (Nat → Int64))).bind fun v1 => mod.bind fun v2 => if (s_Mod_thrown v2.2.1) = v1.1 then (if v1.1 = 0 then (if (bI v2.1) = 0 then (if (lg_cmp (v1.2 (0 : Int32).toNatClampNeg) (0 : Int64)) = 0 then some (f v1 v2) else none)
      else (if (lg_cmp (v1.2 (0 : Int32).toNatClampNeg) (1 : Int64)) = 0 then some (f v1 v2) else none)) else some (f v1 v2)) else none) = some out) :
    (Sum.elim (fun E => if E = c1 then some ((-1001 : Int32), S) else if E = c2 then some ((-1002 : Int32), S) else none) (fun q => some (bI q, S)) r : Option (Int32 × TopS)) = some (avB mod, S) := by
  obtain ⟨v1, h1, hk⟩ := ob h
  obtain ⟨v2, h2, hk⟩ := ob hk
  by_cases c : s_Mod_thrown v2.2.1 = v1.1
  · rw [if_pos c] at hk
    have c : v2.2.1 = v1.1 := c
    have e : avB mod = anv (bI v2.1) v1.1 := by rw [h2, ← c]; rfl
    rw [e]
    cases r with
    | inl E =>
      have h1 := se_l h1
      by_cases z : E = c1
      · have h1 := it_t z h1
        have k : (1 : Int32) = v1.1 := congrArg Prod.fst (Option.some.inj h1)
        simp only [Sum.elim_inl]
        rw [if_pos z, ← k]; rfl
      · have h1 := it_f z h1
        by_cases w : E = c2
        · have h1 := it_t w h1
          have k : (2 : Int32) = v1.1 := congrArg Prod.fst (Option.some.inj h1)
          simp only [Sum.elim_inl]
          rw [if_neg z, if_pos w, ← k]; rfl
        · have h1 := it_f w h1
          cases h1
    | inr q =>
      have h1 := se_r h1
      simp only [Sum.elim_inr]
      cases q with
      | false =>
        have h1 := it_t (show bI false = 0 from rfl) h1
        have k : (0 : Int32) = v1.1 := congrArg Prod.fst (Option.some.inj h1)
        have u : vp_updL fl (0 : Int32).toNatClampNeg (0 : Int64) = v1.2 := congrArg Prod.snd (Option.some.inj h1)
        rw [if_pos k.symm] at hk
        by_cases b : v2.1 = false
        · rw [← k, b]; rfl
        · have b := (Bool.not_eq_false _).mp b
          rw [b, if_neg (show ¬ bI true = 0 by decide), ← u] at hk
          rw [if_neg (show ¬ lg_cmp (vp_updL fl (0 : Int32).toNatClampNeg (0 : Int64) (0 : Int32).toNatClampNeg) (1 : Int64) = 0 from fun z => by
            have := cmp_eq z
            rw [show (vp_updL fl (0 : Int32).toNatClampNeg (0 : Int64) (0 : Int32).toNatClampNeg) = 0 from upd0 fl 0] at this
            cases this)] at hk
          cases hk
      | true =>
        have h1 := it_f (show ¬ bI true = 0 by decide) h1
        have k : (0 : Int32) = v1.1 := congrArg Prod.fst (Option.some.inj h1)
        have u : vp_updL fl (0 : Int32).toNatClampNeg (1 : Int64) = v1.2 := congrArg Prod.snd (Option.some.inj h1)
        rw [if_pos k.symm] at hk
        by_cases b : v2.1 = true
        · rw [← k, b]; rfl
        · have b := (Bool.not_eq_true _).mp b
          rw [b, if_pos (show bI false = 0 from rfl), ← u] at hk
          rw [if_neg (show ¬ lg_cmp (vp_updL fl (0 : Int32).toNatClampNeg (1 : Int64) (0 : Int32).toNatClampNeg) (0 : Int64) = 0 from fun z => by
            have := cmp_eq z
            rw [show (vp_updL fl (0 : Int32).toNatClampNeg (1 : Int64) (0 : Int32).toNatClampNeg) = 1 from upd0 fl 1] at this
            cases this)] at hk
          cases hk
  · rw [if_neg c] at hk; cases hk
theorem qq_good (h : J F S g) (hF : 1000 ≤ F) (a0 : Int32) : s_h_good F S a0 = some (avB (s_Mod_isGood F g zf zf zf a0), S) := by
  obtain ⟨n, m, X, Y, L, H, hC, hM, hO, z, th1, ow1, y, cx⟩ := j_cx h hF
  have k : ∃ out, s_case_27 F (xs2 a0 a0) S.1.1 S.1.2.1 S.2.1.2.1 S.2.1.2.2.2.2.1 S.2.1.2.2.2.2.2.1 S.2.1.2.2.2.2.2.2.2.2.1 g zf zf zf (fun _ => 0) 0 = some out := by
    by_cases n0 : n = 0
    · obtain ⟨z1, z2, z3⟩ := z n0
      have k : ∃ out, s_case_27 F (xs2 a0 a0) S.1.1 S.1.2.1 th1 S.2.1.2.2.2.2.1 S.2.1.2.2.2.2.2.1 S.2.1.2.2.2.2.2.2.2.2.1 g zf zf zf (fun _ => 0) 0 = some out := k_27 cx
      rw [z1] at k ⊢
      have e : s_case_27 F (xs2 a0 a0) S.1.1 S.1.2.1 S.2.1.2.1 S.2.1.2.2.2.2.1 S.2.1.2.2.2.2.2.1 (i32 0) g zf zf zf (fun _ => 0) 0 = s_case_27 F (xs2 a0 a0) S.1.1 S.1.2.1 th1 S.2.1.2.2.2.2.1 S.2.1.2.2.2.2.2.1 (i32 0) g zf zf zf (fun _ => 0) 0 := by
        unfold s_case_27
        simp only [n0_27 (th := S.2.1.2.1) th1]
      rw [e]
      exact k
    · obtain ⟨y1, y2⟩ := y (by omega)
      rw [y1, y2] at cx
      exact k_27 cx
  obtain ⟨out, k⟩ := k
  unfold s_case_27 s_Law_isGood at k
  rw [xs2_1] at k
  unfold s_h_good
  exact caseB_inv (fun (v1 : Int32 × (Nat → Int64)) (v2 : Bool × Int32 × (Nat → Int32) × (Nat → Int32) × Int32 × (Nat → Int32)) => (v2.2.1, v2.2.2.1, v2.2.2.2.1, v2.2.2.2.2.1, v2.2.2.2.2.2, v1.2)) (by decide) k
theorem qq_forced (h : J F S g) (hF : 1000 ≤ F) : i_forcedConstraints F S = some (cv (s_Mod_forcedConstraints F g zf zf)) := by
  obtain ⟨n, m, X, Y, L, H, hC, hM, hO, z, th1, ow1, y, cx⟩ := j_cx h hF
  have k : ∃ out, s_case_28 F S.1.1 S.1.2.1 S.1.2.2.1 S.1.2.2.2.1 S.1.2.2.2.2.2 S.2.1.2.1 g zf zf = some out := by
    by_cases n0 : n = 0
    · obtain ⟨z1, z2, z3⟩ := z n0
      have k : ∃ out, s_case_28 F S.1.1 S.1.2.1 S.1.2.2.1 S.1.2.2.2.1 S.1.2.2.2.2.2 th1 g zf zf = some out := k_28 cx
      rw [z3] at k ⊢
      have e : s_case_28 F S.1.1 S.1.2.1 S.1.2.2.1 S.1.2.2.2.1 (i32 0) S.2.1.2.1 g zf zf = s_case_28 F S.1.1 S.1.2.1 S.1.2.2.1 S.1.2.2.2.1 (i32 0) th1 g zf zf := by
        unfold s_case_28
        simp only [n0_28 (th := S.2.1.2.1) hF th1]
      rw [e]
      exact k
    · obtain ⟨y1, y2⟩ := y (by omega)
      rw [y1, y2] at cx
      exact k_28 cx
  obtain ⟨out, k⟩ := k
  unfold s_case_28 at k
  obtain ⟨v1, h1, k⟩ := ob k
  obtain ⟨v2, h2, k⟩ := ob k
  unfold i_forcedConstraints
  rw [h1, h2]
  by_cases c : v1 = v2.1
  · rw [c]; rfl
  · rw [if_neg c] at k; cases k
theorem qq_cavity (h : J F S g) (hF : 1000 ≤ F) (a0 a1 : Int32) : ∃ T, s_h_cavity F S a0 a1 = some (av (s_Mod_cavity F g zf zf 0 zf zf zf a0 a1), T) ∧ Qs S T := by
  have ci := h.ci
  obtain ⟨thr, v, y0, y1, y2, y3, y4, y5, y6, y7, y8, y9, y10, y11, y12, y13, y14, y15, y16, mnow2, medg2, mcor2, mtri2, mkep2, mkee2, mwor2, fl2, e1, e2, e3, -⟩ := ch_32 (fl := fun _ => 0) (medg := zf) (mcor := zf) (mtri := 0) (mkep := zf) (mkee := zf) (mwor := zf) (pxs := S.1.1) (pys := S.1.2.1) (plo := S.1.2.2.1) (phi := S.1.2.2.2.1) (pn := S.1.2.2.2.2.1) (pm := S.1.2.2.2.2.2) (lf := S.2.1.1) (th := S.2.1.2.1) (ow := S.2.1.2.2.1) (lk := S.2.1.2.2.2.1) (el := S.2.1.2.2.2.2.1) (eh := S.2.1.2.2.2.2.2.1) (co := S.2.1.2.2.2.2.2.2.1) (hu := S.2.1.2.2.2.2.2.2.2.1) (ne := S.2.1.2.2.2.2.2.2.2.2.1) (nt := S.2.1.2.2.2.2.2.2.2.2.2.1) (nh := S.2.1.2.2.2.2.2.2.2.2.2.2) (tpxs := S.2.2.1.1) (tpys := S.2.2.1.2.1) (tplo := S.2.2.1.2.2.1) (tphi := S.2.2.1.2.2.2.1) (tpn := S.2.2.1.2.2.2.2.1) (tpm := S.2.2.1.2.2.2.2.2) (tlf := S.2.2.2.1.1) (tth := S.2.2.2.1.2.1) (tow := S.2.2.2.1.2.2.1) (tlk := S.2.2.2.1.2.2.2.1) (tel := S.2.2.2.1.2.2.2.2.1) (teh := S.2.2.2.1.2.2.2.2.2.1) (tco := S.2.2.2.1.2.2.2.2.2.2.1) (thu := S.2.2.2.1.2.2.2.2.2.2.2.1) (tne := S.2.2.2.1.2.2.2.2.2.2.2.2.1) (tnt := S.2.2.2.1.2.2.2.2.2.2.2.2.2.1) (tnh := S.2.2.2.1.2.2.2.2.2.2.2.2.2.2) ci hF a0 a1
  unfold s_Law_cavity at e1
  obtain ⟨q, hq, e1⟩ := ob e1
  have ev : av (s_Mod_cavity F g zf zf 0 zf zf zf a0 a1) = anv v thr := by rw [e2]; rfl
  unfold s_h_cavity
  rw [hq, ev]
  simp only [Option.bind_some]
  cases q with
  | inl E =>
    have e1 := se_l e1
    simp only [Sum.elim_inl]
    by_cases c0 : E = "java/lang/IllegalArgumentException"
    · have k : (1 : Int32) = thr := congrArg Prod.fst (Option.some.inj (it_t c0 e1))
      refine ⟨S, ?_, Qs.rf S⟩
      rw [if_pos c0, ← k]; rfl
    · have e1 := it_f c0 e1
      by_cases c1 : E = "java/lang/IllegalStateException"
      · have k : (2 : Int32) = thr := congrArg Prod.fst (Option.some.inj (it_t c1 e1))
        refine ⟨S, ?_, Qs.rf S⟩
        rw [if_neg c0, if_pos c1, ← k]; rfl
      · have e1 := it_f c1 e1
        by_cases c2 : E = "java/lang/UnsupportedOperationException"
        · have k : (3 : Int32) = thr := congrArg Prod.fst (Option.some.inj (it_t c2 e1))
          refine ⟨S, ?_, Qs.rf S⟩
          rw [if_neg c0, if_neg c1, if_pos c2, ← k]; rfl
        · have e1 := it_f c2 e1
          cases e1
  | inr q =>
    simp only [Sum.elim_inr] at e1 ⊢
    have e1 := Option.some.inj e1
    have k : (0 : Int32) = thr := congrArg Prod.fst e1
    have w : vp_updL (fun _ => 0) (0 : Int32).toNatClampNeg (q.1).toInt64 = fl2 := congrArg (fun z => z.2.2.2.2.2.2.2.2.2.2.2.2.2.2.2.2.2.2) e1
    have u := e3 k.symm
    rw [← w, upd0] at u
    rw [← k, i64_inj u, show anv v 0 = v from if_pos rfl]
    exact ⟨_, rfl, rfl, rfl, rfl⟩
theorem qq_hole (h : J F S g) (hF : 1000 ≤ F) (a0 : Int32) : ∃ T, s_h_hole F S a0 = some (av (s_Mod_hole F g zf zf 0 zf zf zf a0), T) ∧ Qs S T := by
  have ci := h.ci
  obtain ⟨thr, v, y0, y1, y2, y3, y4, y5, y6, y7, y8, y9, y10, y11, y12, y13, y14, y15, y16, mnow2, medg2, mcor2, mtri2, mkep2, mkee2, mwor2, fl2, e1, e2, e3, -⟩ := ch_33 (fl := fun _ => 0) (medg := zf) (mcor := zf) (mtri := 0) (mkep := zf) (mkee := zf) (mwor := zf) (pxs := S.1.1) (pys := S.1.2.1) (plo := S.1.2.2.1) (phi := S.1.2.2.2.1) (pn := S.1.2.2.2.2.1) (pm := S.1.2.2.2.2.2) (lf := S.2.1.1) (th := S.2.1.2.1) (ow := S.2.1.2.2.1) (lk := S.2.1.2.2.2.1) (el := S.2.1.2.2.2.2.1) (eh := S.2.1.2.2.2.2.2.1) (co := S.2.1.2.2.2.2.2.2.1) (hu := S.2.1.2.2.2.2.2.2.2.1) (ne := S.2.1.2.2.2.2.2.2.2.2.1) (nt := S.2.1.2.2.2.2.2.2.2.2.2.1) (nh := S.2.1.2.2.2.2.2.2.2.2.2.2) (tpxs := S.2.2.1.1) (tpys := S.2.2.1.2.1) (tplo := S.2.2.1.2.2.1) (tphi := S.2.2.1.2.2.2.1) (tpn := S.2.2.1.2.2.2.2.1) (tpm := S.2.2.1.2.2.2.2.2) (tlf := S.2.2.2.1.1) (tth := S.2.2.2.1.2.1) (tow := S.2.2.2.1.2.2.1) (tlk := S.2.2.2.1.2.2.2.1) (tel := S.2.2.2.1.2.2.2.2.1) (teh := S.2.2.2.1.2.2.2.2.2.1) (tco := S.2.2.2.1.2.2.2.2.2.2.1) (thu := S.2.2.2.1.2.2.2.2.2.2.2.1) (tne := S.2.2.2.1.2.2.2.2.2.2.2.2.1) (tnt := S.2.2.2.1.2.2.2.2.2.2.2.2.2.1) (tnh := S.2.2.2.1.2.2.2.2.2.2.2.2.2.2) ci hF a0
  unfold s_Law_hole at e1
  obtain ⟨q, hq, e1⟩ := ob e1
  have ev : av (s_Mod_hole F g zf zf 0 zf zf zf a0) = anv v thr := by rw [e2]; rfl
  unfold s_h_hole
  rw [hq, ev]
  simp only [Option.bind_some]
  cases q with
  | inl E =>
    have e1 := se_l e1
    simp only [Sum.elim_inl]
    by_cases c0 : E = "java/lang/IndexOutOfBoundsException"
    · have k : (1 : Int32) = thr := congrArg Prod.fst (Option.some.inj (it_t c0 e1))
      refine ⟨S, ?_, Qs.rf S⟩
      rw [if_pos c0, ← k]; rfl
    · have e1 := it_f c0 e1
      by_cases c1 : E = "java/lang/IllegalStateException"
      · have k : (2 : Int32) = thr := congrArg Prod.fst (Option.some.inj (it_t c1 e1))
        refine ⟨S, ?_, Qs.rf S⟩
        rw [if_neg c0, if_pos c1, ← k]; rfl
      · have e1 := it_f c1 e1
        cases e1
  | inr q =>
    simp only [Sum.elim_inr] at e1 ⊢
    have e1 := Option.some.inj e1
    have k : (0 : Int32) = thr := congrArg Prod.fst e1
    have w : vp_updL (fun _ => 0) (0 : Int32).toNatClampNeg (q.1).toInt64 = fl2 := congrArg (fun z => z.2.2.2.2.2.2.2.2.2.2.2.2.2.2.2.2.2.2) e1
    have u := e3 k.symm
    rw [← w, upd0] at u
    rw [← k, i64_inj u, show anv v 0 = v from if_pos rfl]
    exact ⟨_, rfl, rfl, rfl, rfl⟩
theorem qq_effect (h : J F S g) (hF : 1000 ≤ F) (a0 : Int32) : ∃ T, s_h_effect F S a0 = some (av (s_Mod_effect F g zf zf 0 zf zf zf a0), T) ∧ Qs S T := by
  have ci := h.ci
  obtain ⟨thr, v, y0, y1, y2, y3, y4, y5, y6, y7, y8, y9, y10, y11, y12, y13, y14, y15, y16, mnow2, medg2, mcor2, mtri2, mkep2, mkee2, mwor2, fl2, e1, e2, e3, -⟩ := ch_35 (fl := fun _ => 0) (medg := zf) (mcor := zf) (mtri := 0) (mkep := zf) (mkee := zf) (mwor := zf) (pxs := S.1.1) (pys := S.1.2.1) (plo := S.1.2.2.1) (phi := S.1.2.2.2.1) (pn := S.1.2.2.2.2.1) (pm := S.1.2.2.2.2.2) (lf := S.2.1.1) (th := S.2.1.2.1) (ow := S.2.1.2.2.1) (lk := S.2.1.2.2.2.1) (el := S.2.1.2.2.2.2.1) (eh := S.2.1.2.2.2.2.2.1) (co := S.2.1.2.2.2.2.2.2.1) (hu := S.2.1.2.2.2.2.2.2.2.1) (ne := S.2.1.2.2.2.2.2.2.2.2.1) (nt := S.2.1.2.2.2.2.2.2.2.2.2.1) (nh := S.2.1.2.2.2.2.2.2.2.2.2.2) (tpxs := S.2.2.1.1) (tpys := S.2.2.1.2.1) (tplo := S.2.2.1.2.2.1) (tphi := S.2.2.1.2.2.2.1) (tpn := S.2.2.1.2.2.2.2.1) (tpm := S.2.2.1.2.2.2.2.2) (tlf := S.2.2.2.1.1) (tth := S.2.2.2.1.2.1) (tow := S.2.2.2.1.2.2.1) (tlk := S.2.2.2.1.2.2.2.1) (tel := S.2.2.2.1.2.2.2.2.1) (teh := S.2.2.2.1.2.2.2.2.2.1) (tco := S.2.2.2.1.2.2.2.2.2.2.1) (thu := S.2.2.2.1.2.2.2.2.2.2.2.1) (tne := S.2.2.2.1.2.2.2.2.2.2.2.2.1) (tnt := S.2.2.2.1.2.2.2.2.2.2.2.2.2.1) (tnh := S.2.2.2.1.2.2.2.2.2.2.2.2.2.2) ci hF a0
  unfold s_Law_effect at e1
  obtain ⟨q, hq, e1⟩ := ob e1
  have ev : av (s_Mod_effect F g zf zf 0 zf zf zf a0) = anv v thr := by rw [e2]; rfl
  unfold s_h_effect
  rw [hq, ev]
  simp only [Option.bind_some]
  cases q with
  | inl E =>
    have e1 := se_l e1
    simp only [Sum.elim_inl]
    by_cases c0 : E = "java/lang/IndexOutOfBoundsException"
    · have k : (1 : Int32) = thr := congrArg Prod.fst (Option.some.inj (it_t c0 e1))
      refine ⟨S, ?_, Qs.rf S⟩
      rw [if_pos c0, ← k]; rfl
    · have e1 := it_f c0 e1
      cases e1
  | inr q =>
    simp only [Sum.elim_inr] at e1 ⊢
    have e1 := Option.some.inj e1
    have k : (0 : Int32) = thr := congrArg Prod.fst e1
    have w : vp_updL (fun _ => 0) (0 : Int32).toNatClampNeg (q.1).toInt64 = fl2 := congrArg (fun z => z.2.2.2.2.2.2.2.2.2.2.2.2.2.2.2.2.2.2) e1
    have u := e3 k.symm
    rw [← w, upd0] at u
    rw [← k, i64_inj u, show anv v 0 = v from if_pos rfl]
    exact ⟨_, rfl, rfl, rfl, rfl⟩
end SEM0

section GREEDY2
variable {n m : Nat} {X Y : Nat → Int} {L H : Nat → Nat} {pxs pys plo phi : Nat → Int32} {pn pm : Int32} {mnow : Nat → Int32}
theorem g_row (hC : CP n m X Y L H pxs pys plo phi pn pm) (hM : MP n m X Y L H mnow) (hO : Ok n m X Y L H) (F : Nat) (hF : 300 ≤ F) {lf : Nat → Int32} (hL : LF n (pt X Y) lf)
    {a : Nat} (ha : a < n) {E : Nat → Nat → Prop} {s : (Nat → Int32) × (Nat → Int32) × (Nat → Int32) × Int32} {t : Nat → Int32} (hI : GI n m X Y L H E s t) (hD : Dn n (pt X Y) E a (a + 1)) :
    ∃ E' s' t', GI n m X Y L H E' s' t' ∧ Dn n (pt X Y) E' (a + 1) (a + 2) ∧
      s_Mesh_drawSomeEdges_L84 F pxs pys pn lf (i32 a) F (i32 (a + 1)) s.1 s.2.1 s.2.2.1 s.2.2.2 = some (i32 n, s'.1, s'.2.1, s'.2.2.1, s'.2.2.2) ∧
      s_Mod_builds_L74 F mnow (i32 a) F (i32 (a + 1)) t = some (i32 n, t') := by
  have hn := hO.1
  obtain ⟨s', t', ⟨_, E', q1, q2⟩, q3, q4⟩ := lpTwo (fun k i (s : (Nat → Int32) × (Nat → Int32) × (Nat → Int32) × Int32) => s_Mesh_drawSomeEdges_L84 F pxs pys pn lf (i32 a) k (i32 i) s.1 s.2.1 s.2.2.1 s.2.2.2)
    (fun k i (t : Nat → Int32) => s_Mod_builds_L74 F mnow (i32 a) k (i32 i) t) n
    (fun i s t => a < i ∧ ∃ E, GI n m X Y L H E s t ∧ Dn n (pt X Y) E a i) (fun s => (i32 n, s.1, s.2.1, s.2.2.1, s.2.2.2)) (fun t => (i32 n, t))
    (fun k s t h => by simp only [s_Mesh_drawSomeEdges_L84, s_Plan_points, hC.1]; rw [if_pos (y_le (by omega) (by omega))])
    (fun k s t h => by simp only [s_Mod_builds_L74, m_n hM, Option.bind_some]; rw [if_pos (y_le (by omega) (by omega))])
    (fun i s t hi ⟨hai, E, h1, h2⟩ => by
      obtain ⟨E', s', t', q1, q2, q3, q4⟩ := g_pair hC hM hO F hF hL hai hi h1 h2
      exact ⟨s', t', ⟨by omega, E', q1, q2⟩, q3, q4⟩)
    (n - (a + 1)) (a + 1) F F s t (by omega) (by omega) (by omega) ⟨by omega, E, hI, hD⟩
  refine ⟨E', s', t', q1, ?_, q3, q4⟩
  intro u v huv hv h
  exact q2 u v huv hv (by omega)
theorem g_all (hC : CP n m X Y L H pxs pys plo phi pn pm) (hM : MP n m X Y L H mnow) (hO : Ok n m X Y L H) (F : Nat) (hF : 300 ≤ F) {lf : Nat → Int32} (hL : LF n (pt X Y) lf)
    {E : Nat → Nat → Prop} {s : (Nat → Int32) × (Nat → Int32) × (Nat → Int32) × Int32} {t : Nat → Int32} (hI : GI n m X Y L H E s t) :
    ∃ E' s' t', GI n m X Y L H E' s' t' ∧ Mx n (pt X Y) E' ∧
      s_Mesh_drawSomeEdges_L69 F pxs pys pn lf F (0 : Int32) s.1 s.2.1 s.2.2.1 s.2.2.2 = some (i32 n, s'.1, s'.2.1, s'.2.2.1, s'.2.2.2) ∧
      s_Mod_builds_L62 F mnow F (0 : Int32) t = some (i32 n, t') := by
  have hn := hO.1
  obtain ⟨s', t', ⟨E', q1, q2⟩, q3, q4⟩ := lpTwo (fun k i (s : (Nat → Int32) × (Nat → Int32) × (Nat → Int32) × Int32) => s_Mesh_drawSomeEdges_L69 F pxs pys pn lf k (i32 i) s.1 s.2.1 s.2.2.1 s.2.2.2)
    (fun k i (t : Nat → Int32) => s_Mod_builds_L62 F mnow k (i32 i) t) n
    (fun i s t => ∃ E, GI n m X Y L H E s t ∧ Dn n (pt X Y) E i (i + 1)) (fun s => (i32 n, s.1, s.2.1, s.2.2.1, s.2.2.2)) (fun t => (i32 n, t))
    (fun k s t h => by simp only [s_Mesh_drawSomeEdges_L69, s_Plan_points, hC.1]; rw [if_pos (y_le (by omega) (by omega))])
    (fun k s t h => by simp only [s_Mod_builds_L62, m_n hM, Option.bind_some]; rw [if_pos (y_le (by omega) (by omega))])
    (fun i s t hi ⟨E, h1, h2⟩ => by
      obtain ⟨E', s', t', q1, q2, q3, q4⟩ := g_row hC hM hO F hF hL hi h1 h2
      rw [hC.1] at q3
      refine ⟨s', t', ⟨E', q1, q2⟩, ?_, ?_⟩
      · intro k
        simp only [s_Mesh_drawSomeEdges_L69, s_Plan_points, hC.1]
        rw [if_neg (n_le (by omega) hi), i32_s, q3]
        simp only [Option.bind_some]
      · intro k
        simp only [s_Mod_builds_L62, m_n hM, Option.bind_some]
        rw [if_neg (n_le (by omega) hi), i32_s, q4]
        simp only [Option.bind_some])
    n 0 F F s t (by omega) (by omega) (by omega) ⟨E, hI, fun u v huv hv h => by omega⟩
  refine ⟨E', s', t', q1, ?_, q3, q4⟩
  have G := q1.1
  intro a b ha hb ab h1 h2
  by_cases z : E' a b
  · exact z
  exfalso
  rcases Nat.lt_or_gt_of_ne ab with c | c
  · exact q2 a b c hb (by omega) ⟨z, h1, h2⟩
  · refine q2 b a c ha (by omega) ⟨fun e => z (G.2.2.1 b a e).2.2.2, fun p hp hx => h1 p hp (cov_sw hx), fun u v e hx => h2 v u (G.2.2.1 u v e).2.2.2 (xc_rv hx)⟩
/-- the constraints, on both sides -/
theorem g_con (hC : CP n m X Y L H pxs pys plo phi pn pm) (hM : MP n m X Y L H mnow) (hO : Ok n m X Y L H) (F : Nat) (hF : 300 ≤ F)
    {s : (Nat → Int32) × (Nat → Int32) × (Nat → Int32) × Int32} {t : Nat → Int32} (h1 : GR (CE L H 0) s.1 s.2.1 s.2.2.1 s.2.2.2) (h2 : ME t (CE L H 0)) :
    ∃ (s' : (Nat → Int32) × (Nat → Int32) × (Nat → Int32) × Int32) (t' : Nat → Int32), GR (CE L H m) s'.1 s'.2.1 s'.2.2.1 s'.2.2.2 ∧ ME t' (CE L H m) ∧
      s_Mesh_drawSomeEdges_L30 plo phi pm F (0 : Int32) s.1 s.2.1 s.2.2.1 s.2.2.2 = some (i32 m, s'.1, s'.2.1, s'.2.2.1, s'.2.2.2) ∧
      s_Mod_builds_L29 mnow F (0 : Int32) t = some (i32 m, t') := by
  have hn := hO.1
  have hm := hO.2.1
  obtain ⟨s', t', ⟨q1, q2⟩, q3, q4⟩ := lpTwo (fun k i (s : (Nat → Int32) × (Nat → Int32) × (Nat → Int32) × Int32) => s_Mesh_drawSomeEdges_L30 plo phi pm k (i32 i) s.1 s.2.1 s.2.2.1 s.2.2.2)
    (fun k i (t : Nat → Int32) => s_Mod_builds_L29 mnow k (i32 i) t) m
    (fun i s t => GR (CE L H i) s.1 s.2.1 s.2.2.1 s.2.2.2 ∧ ME t (CE L H i)) (fun s => (i32 m, s.1, s.2.1, s.2.2.1, s.2.2.2)) (fun t => (i32 m, t))
    (fun k s t h => by simp only [s_Mesh_drawSomeEdges_L30, s_Plan_constraints, hC.2.1]; rw [if_pos (y_le (by omega) (by omega))])
    (fun k s t h => by simp only [s_Mod_builds_L29, m_m hM, Option.bind_some]; rw [if_pos (y_le (by omega) (by omega))])
    (fun i s t hi ⟨h1, h2⟩ => by
      have lh := hO.2.2.2.2.1 i hi
      have nE : ¬ CE L H i (L i) (H i) := by
        rintro ⟨c, z1, ⟨z2, z3⟩ | ⟨z2, z3⟩⟩
        · have := hO.2.2.2.2.2.1 c i (by omega) hi z2.symm z3.symm
          omega
        · have := hO.2.2.2.2.1 c (by omega)
          omega
      have G' := ce_ge hO (i + 1) (by omega)
      have e1 : s_Plan_lowEnd plo (i32 i) = i32 (L i) := by
        unfold s_Plan_lowEnd; rw [rget plo (by omega) (by omega), (hC.2.2.2 i hi).1]
      have e2 : s_Plan_highEnd phi (i32 i) = i32 (H i) := by
        unfold s_Plan_highEnd; rw [rget phi (by omega) (by omega), (hC.2.2.2 i hi).2]
      rw [ce_s] at G'
      refine ⟨s_Mesh_drawEdge s.1 s.2.1 s.2.2.1 s.2.2.2 (i32 (L i)) (i32 (H i)), fun j => if j = 17 * (H i) + L i then bI true else if j = 17 * (L i) + H i then bI true else t j, ⟨?_, ?_⟩, ?_, ?_⟩
      · rw [ce_s]
        exact gr_adE hn hO.2.2.1 G' lh.1 lh.2 nE (fun x y e => ((ce_ge hO i (by omega)).2.2.1 x y e).2.2.2) h1
      · rw [ce_s]
        exact me_put h2 (by omega) (by omega) true ⟨fun _ => rfl, fun _ => Or.inr (Or.inl ⟨rfl, rfl⟩)⟩ ⟨fun _ => rfl, fun _ => Or.inr (Or.inr ⟨rfl, rfl⟩)⟩
          (fun x y n1 n2 => ⟨fun z => z.elim id (fun z => z.elim (fun z => (n1 z).elim) (fun z => (n2 z).elim)), Or.inl⟩)
      · intro k
        simp only [s_Mesh_drawSomeEdges_L30, s_Plan_constraints, hC.2.1, e1, e2]
        rw [if_neg (n_le (by omega) hi), i32_s]
      · intro k
        simp only [s_Mod_builds_L29, m_m hM, Option.bind_some, m_end0 hM hO hi, m_end1 hM hO hi]
        rw [if_neg (n_le (by omega) hi), m_puts t (by omega) (by omega)]
        simp only [Option.bind_some]
        rw [i32_s])
    m 0 F F s t (by omega) (by omega) (by omega) ⟨h1, h2⟩
  exact ⟨s', t', q1, q2, q3, q4⟩
theorem ce_0 (L H : Nat → Nat) : CE L H 0 = fun _ _ => False := by
  funext x y
  exact propext ⟨fun ⟨c, h, _⟩ => by omega, fun h => h.elim⟩
/-- the edges that both sides begin with -/
theorem greedy (hC : CP n m X Y L H pxs pys plo phi pn pm) (hM : MP n m X Y L H mnow) (hO : Ok n m X Y L H) (F : Nat) (hF : 300 ≤ F) {lf : Nat → Int32} (hL : LF n (pt X Y) lf)
    (lk el eh medg : Nat → Int32) :
    ∃ E, Ge n (pt X Y) E ∧ Mx n (pt X Y) E ∧ (∀ c, c < m → E (L c) (H c)) ∧
      (∃ lk' el' eh' ne', s_Mesh_drawSomeEdges F pxs pys plo phi pn pm lf lk el eh = some (lk', el', eh', ne') ∧ LK lk' E) ∧
      (∃ e1 e2 e3, s_Mod_builds_L2 F (0 : Int32) medg = some (i32 289, e1) ∧ s_Mod_builds_L29 mnow F (0 : Int32) e1 = some (i32 m, e2) ∧
        s_Mod_builds_L62 F mnow F (0 : Int32) e2 = some (i32 n, e3) ∧ ME e3 E) := by
  obtain ⟨lk0, z1, z2⟩ := lp (fun k i (lk : Nat → Int32) => s_Mesh_drawSomeEdges_L7 k (i32 i) lk) 16 (fun i lk => ∀ k, k < i → lk k = 0) (fun lk => (i32 16, lk))
    (fun k s hs => by
      simp only [s_Mesh_drawSomeEdges_L7]
      rw [if_pos (show (16 : Int32) ≤ i32 16 from y_le (a := 16) (by omega) (by omega))])
    (fun k i s hi hs => by
      refine ⟨fun j => if j = i then 0 else s j, ?_, ?_⟩
      · intro j hj
        show (if j = i then (0 : Int32) else s j) = 0
        by_cases c : j = i
        · rw [if_pos c]
        · rw [if_neg c]; exact hs j (by omega)
      · simp only [s_Mesh_drawSomeEdges_L7]
        rw [if_neg (show ¬ ((16 : Int32) ≤ i32 i) from n_le (a := 16) (by omega) (by omega)), rset s _ hi (by omega), i32_s])
    16 0 F lk (by omega) (by omega) (fun k hk => by omega)
  obtain ⟨e1, y1, y2⟩ := lp (fun k i (t : Nat → Int32) => s_Mod_builds_L2 k (i32 i) t) 289 (fun i t => ∀ k, k < i → t k = 0) (fun t => (i32 289, t))
    (fun k s hs => by
      simp only [s_Mod_builds_L2]
      rw [if_pos (show (289 : Int32) ≤ i32 289 from y_le (a := 289) (by omega) (by omega))])
    (fun k i s hi hs => by
      refine ⟨fun j => if j = i then 0 else s j, ?_, ?_⟩
      · intro j hj
        show (if j = i then (0 : Int32) else s j) = 0
        by_cases c : j = i
        · rw [if_pos c]
        · rw [if_neg c]; exact hs j (by omega)
      · have v0 : vp_nar .boolean (0 : Int32) = 0 := vp_b false
        simp only [s_Mod_builds_L2, v0]
        rw [if_neg (show ¬ ((289 : Int32) ≤ i32 i) from n_le (a := 289) (by omega) (by omega)), aset_i s _ hi (by omega)]
        simp only [Option.bind_some]
        rw [i32_s])
    289 0 F medg (by omega) (by omega) (fun k hk => by omega)
  have z2 : s_Mesh_drawSomeEdges_L7 F (0 : Int32) lk = some (i32 16, lk0) := z2
  have y2 : s_Mod_builds_L2 F (0 : Int32) medg = some (i32 289, e1) := y2
  obtain ⟨s1, t1, q1, q2, q3, q4⟩ := g_con hC hM hO F hF (s := (lk0, el, eh, (0 : Int32))) (t := e1)
    ⟨0, fun _ => 0, fun _ => 0, rfl, by omega, fun k hk => by omega, fun k hk => by omega, fun k j hk => by omega, fun x y e => by rw [ce_0] at e; exact e.elim,
      fun a ha j hj => by
        show bt (lk0 a) j = _
        rw [z1 a ha, b_0, dB_f]
        rw [ce_0]; exact fun e => e⟩
    (fun a b ha hb => by rw [y1 _ (by omega), dB_f]; · rfl
                         · rw [ce_0]; exact fun e => e)
  obtain ⟨E, s2, t2, ⟨r1, r2, r3, r4⟩, r5, r6, r7⟩ := g_all hC hM hO F hF hL (E := CE L H m) (s := s1) (t := t1)
    ⟨ce_ge hO m (Nat.le_refl _), fun c hc => ⟨c, hc, Or.inl ⟨rfl, rfl⟩⟩, q1, q2⟩
  refine ⟨E, r1, r5, r2, ⟨s2.1, s2.2.1, s2.2.2.1, s2.2.2.2, ?_, ?_⟩, ⟨e1, t1, t2, y2, q4, r7, r4⟩⟩
  · unfold s_Mesh_drawSomeEdges
    rw [z2]
    simp only [Option.bind_some]
    rw [q3]
    simp only [Option.bind_some]
    rw [r6]
    rfl
  · obtain ⟨c, f, g, _, _, _, _, _, _, h⟩ := r3
    exact h
end GREEDY2

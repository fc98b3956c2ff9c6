/-- as many as they can be paired with -/
theorem sumr_rem (N : Nat) (R : Nat → Prop) {j : Nat} (hj : j < N) (h : R j) : sumr N (fun i => ind (R i ∧ i ≠ j)) + 1 = sumr N (fun i => ind (R i)) := by
  have := sumr_J N (fun i => ind (R i)) (fun i => ind (R i ∧ i ≠ j)) [j] (by simp) (by intro x hx; rw [List.mem_singleton] at hx; omega) (by
    intro y hy hj
    rw [List.mem_singleton] at hj
    exact ind_iff ⟨fun z => ⟨z, hj⟩, fun z => z.1⟩)
  simp only [List.map_cons, List.map_nil, List.sum_cons, List.sum_nil, ind_t h] at this
  have e : ind (R j ∧ j ≠ j) = 0 := ind_f (fun z => z.2 rfl)
  omega
theorem cnt_le (N' : Nat) (T : Nat → Nat → Prop) : ∀ N (Q R : Nat → Prop), (∀ k, k < N → Q k → ∃ j, j < N' ∧ R j ∧ T k j) → (∀ k l j, k < N → l < N → Q k → Q l → T k j → T l j → k = l) →
    sumr N (fun k => ind (Q k)) ≤ sumr N' (fun j => ind (R j)) := by
  intro N
  induction N with
  | zero => intro Q R _ _; exact Nat.zero_le _
  | succ N ih =>
    intro Q R h1 h2
    rw [sumr_s]
    by_cases z : Q N
    · obtain ⟨j, hj, rj, tj⟩ := h1 N (by omega) z
      have := ih Q (fun i => R i ∧ i ≠ j) (fun k hk qk => by
        obtain ⟨i, hi, ri, ti⟩ := h1 k (by omega) qk
        refine ⟨i, hi, ⟨ri, fun e => ?_⟩, ti⟩
        subst e
        have := h2 k N i (by omega) (by omega) qk z ti tj
        omega) (fun k l i hk hl => h2 k l i (by omega) (by omega))
      have e := sumr_rem N' R hj rj
      rw [ind_t z]; omega
    · rw [ind_f z]
      exact ih Q R (fun k hk => h1 k (by omega)) (fun k l i hk hl => h2 k l i (by omega) (by omega))
section CG8
variable {F n m : Nat} {X Y : Nat → Int} {L H : Nat → Nat} {pxs pys plo phi : Nat → Int32} {pn pm : Int32} {mnow : Nat → Int32}
variable {lf th ow lk el eh co hu : Nat → Int32} {ne nt nh : Int32} {xs : Nat → Int32} {fl : Nat → Int64} {x5 : Int32}
variable {tpxs tpys tplo tphi : Nat → Int32} {tpn tpm : Int32} {tlf tth tow tlk tel teh tco thu : Nat → Int32} {tne tnt tnh : Int32}
variable {medg mcor mkep mkee mwor : Nat → Int32} {mtri : Int32}
variable {hp : Nat → PlanS} {hnx hkp mols : Int32} {mold : Nat → Int32}
variable {E : Nat → Nat → Prop} {t : Nat} {ta tb tc : Nat → Nat}
/-- what stands in the mesh, also where nothing has been drawn yet -/
theorem see (hC : CP n m X Y L H pxs pys plo phi pn pm) (hM : MP n m X Y L H mnow) (hO : Ok n m X Y L H) (hD : Dw F (pxs, pys, plo, phi, pn, pm) (lf, th, ow, lk, el, eh, co, hu, ne, nt, nh)) (hF : 1000 ≤ F) (medg mcor : Nat → Int32) :
    ∃ th1 ow1 o, s_Mod_builds F mnow medg mcor = some o ∧ Sim n m X Y L H (lf, th1, ow1, lk, el, eh, co, hu, ne, nt, nh) o ∧ (0 < n → th1 = th ∧ ow1 = ow) := by
  rcases hD with ⟨a, b, c, d, e, f, g, h, dr⟩ | ⟨z1, z2, z3, z4, z5, z6, z7⟩
  · obtain ⟨M, o, d1, d2, d3⟩ := draw_sim hC hM hO F hF a b c d e f g h medg mcor
    have : M = (lf, th, ow, lk, el, eh, co, hu, ne, nt, nh) := Option.some.inj (d1.symm.trans dr)
    subst this
    exact ⟨th, ow, o, d2, d3, fun _ => ⟨rfl, rfl⟩⟩
  · obtain ⟨M, o, d1, d2, E, c, f, g, t, ta, tb, tc, T, hp9, D, K, B⟩ := draw_sim hC hM hO F hF lf th ow lk el eh co hu medg mcor
    have hn := hO.1
    have z1 : pn = 0 := z1
    have n0 : n = 0 := (i32_0 (by omega)).1 (hC.1.symm.trans z1)
    have G := D.1.1
    have nE : ∀ u v, ¬ E u v := fun u v e => by have := (G.2.2.1 u v e).1; omega
    have nA : ∀ u v w, ¬ Ap n (pt X Y) E u v w := fun u v w a => nE _ _ a.1
    have c0 : c = 0 := by
      by_cases z : c = 0
      · exact z
      · exact (nE _ _ (D.2.2.2.1.1 0 (by omega)).1).elim
    have t0 : t = 0 := by
      by_cases z : t = 0
      · exact z
      · exact (nA _ _ _ (D.2.2.2.2.1.2.1 0 (by omega)).1).elim
    have T0 : T = 0 := by have := D.2.2.2.2.2.1; omega
    subst c0; subst t0; subst T0
    refine ⟨fun _ => -1, fun _ => -1, o, d2, ⟨E, 0, f, g, 0, ta, tb, tc, 0, hp9, D, ⟨?_, ?_, ?_, ?_, ?_, ?_, ?_, z5, z6, z7⟩, B⟩, fun z => by omega⟩
    · intro a b ha hb j hj
      show bt (lf (a * 16 + b)) j = _
      rw [show lf (a * 16 + b) = 0 from z3 _, b_0, dB_f (fun z => by omega)]
    · intro u v hu hv
      exact Or.inr ⟨fun w => nA u v w, rfl⟩
    · intro u v hu hv
      exact Or.inr ⟨fun k hk => by omega, rfl⟩
    · intro a ha j hj
      show bt (lk a) j = _
      rw [show lk a = 0 from z4 _, b_0, dB_f (nE _ _)]
    · intro k hk; omega
    · intro k hk; omega
    · intro k hk; omega
theorem cx_of (hC : CP n m X Y L H pxs pys plo phi pn pm) (hM : MP n m X Y L H mnow) (hO : Ok n m X Y L H) (hD : Dw F (pxs, pys, plo, phi, pn, pm) (lf, th, ow, lk, el, eh, co, hu, ne, nt, nh)) (hF : 1000 ≤ F) :
    ∃ th1 ow1 : Nat → Int32, (0 < n → th1 = th ∧ ow1 = ow) ∧ (n = 0 → ne = 0 ∧ nt = 0) ∧ ∀ medg mcor, ∃ th1 ow1, (0 < n → th1 = th ∧ ow1 = ow) ∧ Cx F n m X Y L H pxs pys plo phi pn pm mnow (lf, th1, ow1, lk, el, eh, co, hu, ne, nt, nh) medg mcor := by
  refine ⟨th, ow, fun _ => ⟨rfl, rfl⟩, fun n0 => ?_, fun medg mcor => ?_⟩
  · obtain ⟨th1, ow1, o, d2, ⟨E, c, f, g, t, ta, tb, tc, T, hp9, D, K, B⟩, _⟩ := see hC hM hO hD hF (fun _ => 0) (fun _ => 0)
    have G := D.1.1
    have nE : ∀ u v, ¬ E u v := fun u v e => by have := (G.2.2.1 u v e).1; omega
    have c0 : c = 0 := by
      by_cases z : c = 0
      · exact z
      · exact (nE _ _ (D.2.2.2.1.1 0 (by omega)).1).elim
    have t0 : t = 0 := by
      by_cases z : t = 0
      · exact z
      · exact (nE _ _ (D.2.2.2.2.1.2.1 0 (by omega)).1.1).elim
    subst c0; subst t0
    exact ⟨K.2.2.2.2.2.2.2.1, K.2.2.2.2.2.2.2.2.1⟩
  · obtain ⟨th1, ow1, o, d2, d3, d4⟩ := see hC hM hO hD hF medg mcor
    exact ⟨th1, ow1, d4, by omega, hC, hM, hO, o, d2, d3⟩
theorem c_hasT (hT : TH n (pt X Y) E th) (hn : n ≤ 16) (G : Ge n (pt X Y) E) {u v w : Nat} (hu : u < 16) (hv : v < 16) (hw : w < 100) : s_Mesh_hasTriangle th (i32 u) (i32 v) (i32 w) = dB (Ap n (pt X Y) E u v w) := by
  unfold s_Mesh_hasTriangle
  rw [tget (-1) th hu hv]
  rcases hT u v hu hv with ⟨w', A, e⟩ | ⟨A, e⟩
  · have := ap_lt G A
    rw [e]
    by_cases z : w' = w
    · subst z; rw [if_pos rfl, dB_t A]
    · rw [if_neg (n_eq (by omega) (by omega) z), dB_f (fun B => z (ap_un G A B))]
  · rw [e, if_neg (fun z => i32_m1 (show w < 2147483648 by omega) z.symm), dB_f (A w)]
theorem m_triB (D : TrD n (pt X Y) E t ta tb tc) (hn : n ≤ 16) (G : Ge n (pt X Y) E) {mcor : Nat → Int32} (h : CoR t ta tb tc mcor) (hF : 300 ≤ F) {x y z : Nat} (hx : x < 100) (hy : y < 100) (hz : z < 100) :
    ∃ r, s_Mod_triangleOf F mcor (i32 t) (i32 x) (i32 y) (i32 z) = some r ∧ ((Ap n (pt X Y) E x y z ∧ (0 : Int32) ≤ r) ∨ (¬ Ap n (pt X Y) E x y z ∧ r < 0)) := by
  obtain ⟨r, h1, ⟨k, j, hk, hj, e1, e2, e3, rfl⟩ | ⟨h2, rfl⟩⟩ := m_triOf D hn G h F hF hx hy hz
  · have A := cn_ap D hk hj
    rw [e1, e2, e3] at A
    have := D.1
    exact ⟨_, h1, Or.inl ⟨A, i32_nn (by omega)⟩⟩
  · refine ⟨_, h1, Or.inr ⟨fun A => ?_, by decide⟩⟩
    obtain ⟨k, j, hk, hj, e1, e2, e3⟩ := tr_num G D A
    exact h2 k j hk hj ⟨e1, e2, e3⟩
theorem co3 {co : Nat → Int32} (h : CoR t ta tb tc co) (ht : t ≤ 27) {k : Nat} (hk : k < t) :
    s_Mesh_cornerOf co (i32 k) (0 : Int32) = i32 (ta k) ∧ s_Mesh_cornerOf co (i32 k) (1 : Int32) = i32 (tb k) ∧ s_Mesh_cornerOf co (i32 k) (2 : Int32) = i32 (tc k) :=
  ⟨c_corner (k := 0) h ht hk (by omega), c_corner (k := 1) h ht hk (by omega), c_corner (k := 2) h ht hk (by omega)⟩
theorem ke3 {kep : Nat → Int32} {mc : Nat → Int32} (h : CoR t ta tb tc mc) (e : ∀ j, j < 3 * t → kep j = mc j) (ht : t ≤ 27) {k : Nat} (hk : k < t) :
    aget 120 kep ((3 : Int32) * i32 k) = some (i32 (ta k)) ∧ aget 120 kep (((3 : Int32) * i32 k) + (1 : Int32)) = some (i32 (tb k)) ∧ aget 120 kep (((3 : Int32) * i32 k) + (2 : Int32)) = some (i32 (tc k)) := by
  have e3 : (3 : Int32) * i32 k = i32 (3 * k) := i32_mul 3 k
  obtain ⟨q1, q2, q3⟩ := h k hk
  rw [e3]
  refine ⟨?_, ?_, ?_⟩
  · rw [aget_i kep (show 3 * k < 120 by omega) (by omega), e _ (by omega), q1]
  · rw [i32_s, aget_i kep (show 3 * k + 1 < 120 by omega) (by omega), e _ (by omega), q2]
  · rw [show i32 (3 * k) + (2 : Int32) = i32 (3 * k + 2) from i32_add _ 2, aget_i kep (show 3 * k + 2 < 120 by omega) (by omega), e _ (by omega), q3]
theorem ch_32 (ci : CI F (pxs, pys, plo, phi, pn, pm) (lf, th, ow, lk, el, eh, co, hu, ne, nt, nh) hp hnx hkp mnow mold mols) (hF : 1000 ≤ F) (a0 a1 : Int32) :
    ∃ (thr v : Int32) (tpxs' : Nat → Int32) (tpys' : Nat → Int32) (tplo' : Nat → Int32) (tphi' : Nat → Int32) (tpn' : Int32) (tpm' : Int32) (tlf' : Nat → Int32) (tth' : Nat → Int32) (tow' : Nat → Int32) (tlk' : Nat → Int32) (tel' : Nat → Int32) (teh' : Nat → Int32) (tco' : Nat → Int32) (thu' : Nat → Int32) (tne' : Int32) (tnt' : Int32) (tnh' : Int32) (mnow' : Nat → Int32) (medg' : Nat → Int32) (mcor' : Nat → Int32) (mtri' : Int32) (mkep' : Nat → Int32) (mkee' : Nat → Int32) (mwor' : Nat → Int32) (fl' : Nat → Int64),
      s_Law_cavity F pxs pys plo phi pn pm co nt tpxs tpys tplo tphi tpn tpm tlf tth tow tlk tel teh tco thu tne tnt tnh a0 a1 fl = some (thr, tpxs', tpys', tplo', tphi', tpn', tpm', tlf', tth', tow', tlk', tel', teh', tco', thu', tne', tnt', tnh', fl') ∧ s_Mod_cavity F mnow medg mcor mtri mkep mkee mwor a0 a1 = some (v, thr, mnow', medg', mcor', mtri', mkep', mkee', mwor') ∧ (thr = 0 → fl' 0 = v.toInt64) ∧ ∀ j, j < 56 → mnow' j = mnow j := by
  obtain ⟨⟨n, m, X, Y, L, H, hC, hM, hO⟩, hD, hH⟩ := ci
  have hC : CP n m X Y L H pxs pys plo phi pn pm := hC
  have hn := hO.1
  have hm := hO.2.1
  rcases q_new (F := F) hC hM hO (by omega) a0 a1 with ⟨P, Q, hP, hQ, rfl, rfl, hn9, nb, r1, r2, r3⟩ | ⟨r1, r3⟩ | ⟨r1, r2, r3⟩ | ⟨r1, r2, r3⟩
  · obtain ⟨th1, ow1, o, hb, ⟨E, c, f, g, t, ta, tb, tc, T, hp9, D, K, B⟩, _⟩ := see hC hM hO hD hF medg mcor
    obtain ⟨v1, v2, v3, v4, w1, w2, w3⟩ := c_pcopy F (by omega) tpxs tpys tplo tphi pxs pys plo phi pn pm
    obtain ⟨c1, c2, v, mn', s1, s2, s3, c3⟩ := pl_add (cp_ext hO hC w2 w3) hM hO hn9 hP hQ nb
    obtain ⟨⟨tlf', tth', tow', tlk', tel', teh', tco', thu', tne', tnt', tnh'⟩, o', d1, d2, ⟨E', c', f', g', t', ta', tb', tc', T', hp', D', K', B'⟩⟩ := draw_sim c1 c3 c2 F hF tlf tth tow tlk tel teh tco thu o.1 o.2.1
    obtain ⟨k1, k2, k3, kk, ke, _, kw⟩ := m_keeps F hF mnow o.1 o.2.1 mkep mkee mwor (t := t) D.2.2.2.2.1.1
    have ht := D.2.2.2.2.1.1
    have G := D.1.1
    have G' := D'.1.1
    have TT := D.2.2.2.2.1
    have TT' := D'.2.2.2.2.1
    have wco : CoR t ta tb tc co := K.2.2.2.2.2.1
    have wth : TH (n + 1) (pt (pX X n P) (pX Y n Q)) E' tth' := K'.2.1
    have wnt : nt = i32 t := K.2.2.2.2.2.2.2.2.1
    have bd : ∀ k, k < t → ta k < 16 ∧ tb k < 16 ∧ tc k < 16 := fun k hk => by
      have := ap_lt G (TT.2.1 k hk).1
      omega
    obtain ⟨q, hq, q1⟩ := lp (fun fu i (k : Nat) => s_Top_cavity_L44 co (i32 t) tth' fu (i32 k) (i32 i)) t (fun i k => k = sumr i (fun j => ind (¬ Ap (n + 1) (pt (pX X n P) (pX Y n Q)) E' (ta j) (tb j) (tc j)))) (fun k => (i32 k, i32 t))
      (fun fu s _ => by simp only [s_Top_cavity_L44]; rw [if_pos (show s_Mesh_triangles (i32 t) ≤ i32 t from y_le (by omega) (by omega))])
      (fun fu i s hi hs => by
        obtain ⟨x1, x2, x3⟩ := co3 wco ht hi
        obtain ⟨y1, y2, y3⟩ := bd i hi
        have hh := c_hasT wth (by omega) G' y1 y2 (show tc i < 100 by omega)
        by_cases z : Ap (n + 1) (pt (pX X n P) (pX Y n Q)) E' (ta i) (tb i) (tc i)
        · refine ⟨s, by rw [sumr_s, ind_f (fun w => w z), hs]; rfl, ?_⟩
          simp only [s_Top_cavity_L44, x1, x2, x3, hh]
          rw [if_neg (show ¬ (s_Mesh_triangles (i32 t) ≤ i32 i) from n_le (by omega) hi), if_neg (bI_t z), i32_s]
        · refine ⟨s + 1, by rw [sumr_s, ind_t z, hs], ?_⟩
          simp only [s_Top_cavity_L44, x1, x2, x3, hh]
          rw [if_neg (show ¬ (s_Mesh_triangles (i32 t) ≤ i32 i) from n_le (by omega) hi), if_pos (bI_f z), i32_s, i32_s])
      t 0 F 0 (by omega) (by omega) rfl
    have q1 : s_Top_cavity_L44 co (i32 t) tth' F (0 : Int32) (0 : Int32) = some (i32 q, i32 t) := q1
    obtain ⟨p, hp9, p1⟩ := lp (fun fu i (k : Nat) => s_Mod_cavity_L62 F o'.2.1 (i32 t') k1 (i32 t) fu (i32 k) (i32 i)) t (fun i k => k = sumr i (fun j => ind (¬ Ap (n + 1) (pt (pX X n P) (pX Y n Q)) E' (ta j) (tb j) (tc j)))) (fun k => (i32 k, i32 t))
      (fun fu s _ => by simp only [s_Mod_cavity_L62]; rw [if_pos (y_le (by omega) (by omega))])
      (fun fu i s hi hs => by
        obtain ⟨x1, x2, x3⟩ := ke3 B.2.1 ke ht hi
        obtain ⟨y1, y2, y3⟩ := bd i hi
        obtain ⟨r, z1, z2⟩ := m_triB (F := F) TT' (by omega) G' B'.2.1 (by omega) (show ta i < 100 by omega) (show tb i < 100 by omega) (show tc i < 100 by omega)
        rcases z2 with ⟨z, z2⟩ | ⟨z, z2⟩
        · refine ⟨s, by rw [sumr_s, ind_f (fun w => w z), hs]; rfl, ?_⟩
          simp only [s_Mod_cavity_L62, x1, x2, x3, z1, Option.bind_some]
          rw [if_neg (n_le (by omega) hi), if_pos z2, i32_s]
        · refine ⟨s + 1, by rw [sumr_s, ind_t z, hs], ?_⟩
          simp only [s_Mod_cavity_L62, x1, x2, x3, z1, Option.bind_some]
          rw [if_neg (n_le (by omega) hi), if_neg (fun w => nlt_of_le w z2), i32_s, i32_s])
      t 0 F 0 (by omega) (by omega) rfl
    have p1 : s_Mod_cavity_L62 F o'.2.1 (i32 t') k1 (i32 t) F (0 : Int32) (0 : Int32) = some (i32 p, i32 t) := p1
    have : p = q := by omega
    subst this
    obtain ⟨mz, g1, g2⟩ := m_goes F hF k3 mn'
    have top : s_Top_cavity F pxs pys plo phi pn pm co nt tpxs tpys tplo tphi tlf tth tow tlk tel teh tco thu (i32 P) (i32 Q) = some (.inr (i32 p, (s_Plan_appendPoint v1 v2 pn (i32 P) (i32 Q)).1, (s_Plan_appendPoint v1 v2 pn (i32 P) (i32 Q)).2.1, v3, v4, (s_Plan_appendPoint v1 v2 pn (i32 P) (i32 Q)).2.2, pm, tlf', tth', tow', tlk', tel', teh', tco', thu', tne', tnt', tnh')) := by
      unfold s_Top_cavity
      rw [r1]; simp only [Sum.elim_inr]
      rw [r2]; simp only [Option.bind_some, Sum.elim_inr]
      rw [w1]; simp only [Option.bind_some]
      rw [d1]; simp only [Option.bind_some]
      rw [wnt, q1]; rfl
    refine ⟨(0 : Int32), i32 p, (s_Plan_appendPoint v1 v2 pn (i32 P) (i32 Q)).1, (s_Plan_appendPoint v1 v2 pn (i32 P) (i32 Q)).2.1, v3, v4, (s_Plan_appendPoint v1 v2 pn (i32 P) (i32 Q)).2.2, pm, tlf', tth', tow', tlk', tel', teh', tco', thu', tne', tnt', tnh', mz, o'.1, o'.2.1, o'.2.2, k1, k2, k3, vp_updL fl (0 : Int32).toNatClampNeg (i32 p).toInt64, ?_, ?_, fun _ => upd0 _ _, fun j hj => (g2 j hj).trans (kw j hj)⟩
    · unfold s_Law_cavity
      rw [top]; rfl
    · have e2 : o.2.2 = i32 t := B.2.2
      have e3 : o'.2.2 = i32 t' := B'.2.2
      unfold s_Mod_cavity
      rw [r3]; simp only [Option.bind_some]
      rw [if_pos (by decide), hb]; simp only [Option.bind_some]
      rw [e2, kk]; simp only [Option.bind_some]
      rw [m_n hM]; simp only [Option.bind_some]
      rw [s1]; simp only [Option.bind_some]
      rw [s2]; simp only [Option.bind_some]
      rw [s3]; simp only [Option.bind_some]
      rw [d2]; simp only [Option.bind_some]
      rw [e3, p1]; simp only [Option.bind_some]
      rw [g1]; rfl
  · have top : s_Top_cavity F pxs pys plo phi pn pm co nt tpxs tpys tplo tphi tlf tth tow tlk tel teh tco thu a0 a1 = some (.inl "java/lang/IllegalArgumentException") := by
      unfold s_Top_cavity
      rw [r1]; rfl
    refine ⟨(1 : Int32), (0 : Int32), tpxs, tpys, tplo, tphi, tpn, tpm, tlf, tth, tow, tlk, tel, teh, tco, thu, tne, tnt, tnh, mnow, medg, mcor, mtri, mkep, mkee, mwor, fl, ?_, ?_, fun z => absurd z (by decide), fun _ _ => rfl⟩
    · unfold s_Law_cavity
      rw [top]
      simp only [Option.bind_some, Sum.elim_inl]
      rw [if_pos trivial]
    · unfold s_Mod_cavity
      rw [r3]; simp only [Option.bind_some]
      rw [if_neg (by decide)]
  · have top : s_Top_cavity F pxs pys plo phi pn pm co nt tpxs tpys tplo tphi tlf tth tow tlk tel teh tco thu a0 a1 = some (.inl "java/lang/IllegalStateException") := by
      unfold s_Top_cavity
      rw [r1]; simp only [Sum.elim_inr]
      rw [r2]; rfl
    refine ⟨(2 : Int32), (0 : Int32), tpxs, tpys, tplo, tphi, tpn, tpm, tlf, tth, tow, tlk, tel, teh, tco, thu, tne, tnt, tnh, mnow, medg, mcor, mtri, mkep, mkee, mwor, fl, ?_, ?_, fun z => absurd z (by decide), fun _ _ => rfl⟩
    · unfold s_Law_cavity
      rw [top]
      simp only [Option.bind_some, Sum.elim_inl]
      rw [if_neg (by decide), if_pos trivial]
    · unfold s_Mod_cavity
      rw [r3]; simp only [Option.bind_some]
      rw [if_neg (by decide)]
  · have top : s_Top_cavity F pxs pys plo phi pn pm co nt tpxs tpys tplo tphi tlf tth tow tlk tel teh tco thu a0 a1 = some (.inl "java/lang/UnsupportedOperationException") := by
      unfold s_Top_cavity
      rw [r1]; simp only [Sum.elim_inr]
      rw [r2]; rfl
    refine ⟨(3 : Int32), (0 : Int32), tpxs, tpys, tplo, tphi, tpn, tpm, tlf, tth, tow, tlk, tel, teh, tco, thu, tne, tnt, tnh, mnow, medg, mcor, mtri, mkep, mkee, mwor, fl, ?_, ?_, fun z => absurd z (by decide), fun _ _ => rfl⟩
    · unfold s_Law_cavity
      rw [top]
      simp only [Option.bind_some, Sum.elim_inl]
      rw [if_neg (by decide), if_neg (by decide), if_pos trivial]
    · unfold s_Mod_cavity
      rw [r3]; simp only [Option.bind_some]
      rw [if_neg (by decide)]
theorem m_hstep {kep mc : Nat → Int32} {mt : Int32} {a x y z i t : Nat} {x3 r : Int32} (ha : a < 100) (hx : x < 100) (hy : y < 100) (hz : z < 100) (hi : i < t) (ht : t ≤ 27) (fu : Nat)
    (h1 : aget 120 kep ((3 : Int32) * i32 i) = some (i32 x)) (h2 : aget 120 kep (((3 : Int32) * i32 i) + (1 : Int32)) = some (i32 y)) (h3 : aget 120 kep (((3 : Int32) * i32 i) + (2 : Int32)) = some (i32 z))
    (tri : s_Mod_triangleOf F mc mt (i32 (dn a x)) (i32 (dn a y)) (i32 (dn a z)) = some r) :
    s_Mod_hole_L60 F mc mt kep (i32 a) (i32 t) (fu + 1) x3 (i32 i) = s_Mod_hole_L60 F mc mt kep (i32 a) (i32 t) fu (@ite _ (x ≠ a ∧ y ≠ a ∧ z ≠ a ∧ ¬ r < 0) (Classical.propDecidable _) (x3 + 1) x3) (i32 (i + 1)) := by
  simp only [s_Mod_hole_L60, h1, h2, h3, Option.bind_some]
  rw [if_neg (n_le (by omega) hi), i32_s]
  by_cases na : x = a
  · rw [if_pos (by rw [na]), if_neg (fun q => q.1 na)]
  rw [if_neg (n_eq (by omega) (by omega) na)]
  by_cases nb : y = a
  · rw [if_pos (by rw [nb]), if_neg (fun q => q.2.1 nb)]
  rw [if_neg (n_eq (by omega) (by omega) nb)]
  by_cases nc : z = a
  · rw [if_pos (by rw [nc]), if_neg (fun q => q.2.2.1 nc)]
  rw [if_neg (n_eq (by omega) (by omega) nc)]
  by_cases x1 : a < x
  · rw [if_neg (n_le (by omega) x1)]
    have x2 : i32 x - (1 : Int32) = i32 (dn a x) := by unfold dn; rw [if_pos x1]; exact i32_sub (b := 1) (by omega)
    by_cases y1 : a < y
    · rw [if_neg (n_le (by omega) y1)]
      have y2 : i32 y - (1 : Int32) = i32 (dn a y) := by unfold dn; rw [if_pos y1]; exact i32_sub (b := 1) (by omega)
      by_cases z1 : a < z
      · rw [if_neg (n_le (by omega) z1)]
        have z2 : i32 z - (1 : Int32) = i32 (dn a z) := by unfold dn; rw [if_pos z1]; exact i32_sub (b := 1) (by omega)
        rw [x2, y2, z2, tri]
        simp only [Option.bind_some]
        by_cases w : r < 0
        · rw [if_pos w, if_neg (fun q => q.2.2.2 w)]
        · rw [if_neg w, if_pos ⟨na, nb, nc, w⟩]
      · rw [if_pos (y_le (by omega) (show z ≤ a by omega))]
        have z2 : i32 z = i32 (dn a z) := by unfold dn; rw [if_neg z1]
        rw [x2, y2, z2, tri]
        simp only [Option.bind_some]
        by_cases w : r < 0
        · rw [if_pos w, if_neg (fun q => q.2.2.2 w)]
        · rw [if_neg w, if_pos ⟨na, nb, nc, w⟩]
    · rw [if_pos (y_le (by omega) (show y ≤ a by omega))]
      have y2 : i32 y = i32 (dn a y) := by unfold dn; rw [if_neg y1]
      by_cases z1 : a < z
      · rw [if_neg (n_le (by omega) z1)]
        have z2 : i32 z - (1 : Int32) = i32 (dn a z) := by unfold dn; rw [if_pos z1]; exact i32_sub (b := 1) (by omega)
        rw [x2, y2, z2, tri]
        simp only [Option.bind_some]
        by_cases w : r < 0
        · rw [if_pos w, if_neg (fun q => q.2.2.2 w)]
        · rw [if_neg w, if_pos ⟨na, nb, nc, w⟩]
      · rw [if_pos (y_le (by omega) (show z ≤ a by omega))]
        have z2 : i32 z = i32 (dn a z) := by unfold dn; rw [if_neg z1]
        rw [x2, y2, z2, tri]
        simp only [Option.bind_some]
        by_cases w : r < 0
        · rw [if_pos w, if_neg (fun q => q.2.2.2 w)]
        · rw [if_neg w, if_pos ⟨na, nb, nc, w⟩]
  · rw [if_pos (y_le (by omega) (show x ≤ a by omega))]
    have x2 : i32 x = i32 (dn a x) := by unfold dn; rw [if_neg x1]
    by_cases y1 : a < y
    · rw [if_neg (n_le (by omega) y1)]
      have y2 : i32 y - (1 : Int32) = i32 (dn a y) := by unfold dn; rw [if_pos y1]; exact i32_sub (b := 1) (by omega)
      by_cases z1 : a < z
      · rw [if_neg (n_le (by omega) z1)]
        have z2 : i32 z - (1 : Int32) = i32 (dn a z) := by unfold dn; rw [if_pos z1]; exact i32_sub (b := 1) (by omega)
        rw [x2, y2, z2, tri]
        simp only [Option.bind_some]
        by_cases w : r < 0
        · rw [if_pos w, if_neg (fun q => q.2.2.2 w)]
        · rw [if_neg w, if_pos ⟨na, nb, nc, w⟩]
      · rw [if_pos (y_le (by omega) (show z ≤ a by omega))]
        have z2 : i32 z = i32 (dn a z) := by unfold dn; rw [if_neg z1]
        rw [x2, y2, z2, tri]
        simp only [Option.bind_some]
        by_cases w : r < 0
        · rw [if_pos w, if_neg (fun q => q.2.2.2 w)]
        · rw [if_neg w, if_pos ⟨na, nb, nc, w⟩]
    · rw [if_pos (y_le (by omega) (show y ≤ a by omega))]
      have y2 : i32 y = i32 (dn a y) := by unfold dn; rw [if_neg y1]
      by_cases z1 : a < z
      · rw [if_neg (n_le (by omega) z1)]
        have z2 : i32 z - (1 : Int32) = i32 (dn a z) := by unfold dn; rw [if_pos z1]; exact i32_sub (b := 1) (by omega)
        rw [x2, y2, z2, tri]
        simp only [Option.bind_some]
        by_cases w : r < 0
        · rw [if_pos w, if_neg (fun q => q.2.2.2 w)]
        · rw [if_neg w, if_pos ⟨na, nb, nc, w⟩]
      · rw [if_pos (y_le (by omega) (show z ≤ a by omega))]
        have z2 : i32 z = i32 (dn a z) := by unfold dn; rw [if_neg z1]
        rw [x2, y2, z2, tri]
        simp only [Option.bind_some]
        by_cases w : r < 0
        · rw [if_pos w, if_neg (fun q => q.2.2.2 w)]
        · rw [if_neg w, if_pos ⟨na, nb, nc, w⟩]
theorem c_before {p a : Nat} (hp : p < 100) (ha : a < 100) : s_Top_numberBefore (i32 p) (i32 a) = i32 (sh a p) := by
  unfold s_Top_numberBefore sh
  by_cases z : p < a
  · rw [if_pos z, if_neg (n_le (by omega) z)]
  · rw [if_neg z, if_pos (y_le (by omega) (by omega)), i32_s]
theorem sh_mono {a p q : Nat} (h : p < q) : sh a p < sh a q := by
  unfold sh
  split <;> split <;> omega
theorem dn_mono {a p q : Nat} (hp : p ≠ a) (hq : q ≠ a) (h : p < q) : dn a p < dn a q := by
  unfold dn
  split <;> split <;> omega
/-- a triangle stands in the list under its first two corners -/
theorem tr_at (G : Ge n (pt X Y) E) (D : TrD n (pt X Y) E t ta tb tc) {u v w : Nat} (h : Ap n (pt X Y) E u v w) (h1 : u < v) (h2 : u < w) : ∃ k, k < t ∧ ta k = u ∧ tb k = v ∧ tc k = w := by
  obtain ⟨k, hk, e1, e2⟩ := D.2.2.2.2 u v ⟨w, h, h1, h2⟩
  have := (D.2.1 k hk).1
  rw [e1, e2] at this
  exact ⟨k, hk, e1, e2, ap_un G this h⟩
theorem tr_low (D : TrD n (pt X Y) E t ta tb tc) {k : Nat} (hk : k < t) : ta k < tb k ∧ ta k < tc k := by
  obtain ⟨_, _, h1, _⟩ := D.2.2.1 k hk
  exact ⟨h1, (D.2.1 k hk).2⟩
theorem tr_inj (D : TrD n (pt X Y) E t ta tb tc) {k l : Nat} (hk : k < t) (hl : l < t) (h1 : ta k = ta l) (h2 : tb k = tb l) : k = l := lst_inj D.2.2.2.1 k l hk hl h1 h2
/-- the triangles that stay when a point is taken out, counted on either side -/
theorem hole_cnt {X' Y' : Nat → Int} {E' : Nat → Nat → Prop} {n' t' : Nat} {ta' tb' tc' : Nat → Nat} (G : Ge n (pt X Y) E) (D : TrD n (pt X Y) E t ta tb tc) (G' : Ge n' (pt X' Y') E') (D' : TrD n' (pt X' Y') E' t' ta' tb' tc') (a : Nat) :
    sumr t' (fun k => ind (Ap n (pt X Y) E (sh a (ta' k)) (sh a (tb' k)) (sh a (tc' k)))) =
      sumr t (fun k => ind (ta k ≠ a ∧ tb k ≠ a ∧ tc k ≠ a ∧ Ap n' (pt X' Y') E' (dn a (ta k)) (dn a (tb k)) (dn a (tc k)))) := by
  apply Nat.le_antisymm
  · refine cnt_le t (fun k j => ta j = sh a (ta' k) ∧ tb j = sh a (tb' k)) t' _ _ (fun k hk q => ?_) (fun k l j hk hl _ _ h1 h2 => ?_)
    · obtain ⟨l1, l2⟩ := tr_low D' hk
      obtain ⟨j, hj, e1, e2, e3⟩ := tr_at G D q (sh_mono l1) (sh_mono l2)
      refine ⟨j, hj, ⟨by rw [e1]; exact sh_ne _ _, by rw [e2]; exact sh_ne _ _, by rw [e3]; exact sh_ne _ _, ?_⟩, e1, e2⟩
      rw [e1, e2, e3, dn_sh, dn_sh, dn_sh]
      exact (D'.2.1 k hk).1
    · exact tr_inj D' hk hl (sh_inj (h1.1.symm.trans h2.1)) (sh_inj (h1.2.symm.trans h2.2))
  · refine cnt_le t' (fun j k => ta j = sh a (ta' k) ∧ tb j = sh a (tb' k)) t _ _ (fun j hj q => ?_) (fun k l j hk hl _ _ h1 h2 => ?_)
    · obtain ⟨q1, q2, q3, q4⟩ := q
      obtain ⟨l1, l2⟩ := tr_low D hj
      obtain ⟨k, hk, e1, e2, e3⟩ := tr_at G' D' q4 (dn_mono q1 q2 l1) (dn_mono q1 q3 l2)
      refine ⟨k, hk, ?_, ?_, ?_⟩
      · rw [e1, e2, e3, sh_dn q1, sh_dn q2, sh_dn q3]
        exact (D.2.1 j hj).1
      · rw [e1, sh_dn q1]
      · rw [e2, sh_dn q2]
    · exact tr_inj D hk hl (h1.1.trans h2.1.symm) (h1.2.trans h2.2.symm)
theorem ch_33 (ci : CI F (pxs, pys, plo, phi, pn, pm) (lf, th, ow, lk, el, eh, co, hu, ne, nt, nh) hp hnx hkp mnow mold mols) (hF : 1000 ≤ F) (a0 : Int32) :
    ∃ (thr v : Int32) (tpxs' : Nat → Int32) (tpys' : Nat → Int32) (tplo' : Nat → Int32) (tphi' : Nat → Int32) (tpn' : Int32) (tpm' : Int32) (tlf' : Nat → Int32) (tth' : Nat → Int32) (tow' : Nat → Int32) (tlk' : Nat → Int32) (tel' : Nat → Int32) (teh' : Nat → Int32) (tco' : Nat → Int32) (thu' : Nat → Int32) (tne' : Int32) (tnt' : Int32) (tnh' : Int32) (mnow' : Nat → Int32) (medg' : Nat → Int32) (mcor' : Nat → Int32) (mtri' : Int32) (mkep' : Nat → Int32) (mkee' : Nat → Int32) (mwor' : Nat → Int32) (fl' : Nat → Int64),
      s_Law_hole F pxs pys plo phi pn pm th tpxs tpys tplo tphi tpn tpm tlf tth tow tlk tel teh tco thu tne tnt tnh a0 fl = some (thr, tpxs', tpys', tplo', tphi', tpn', tpm', tlf', tth', tow', tlk', tel', teh', tco', thu', tne', tnt', tnh', fl') ∧ s_Mod_hole F mnow medg mcor mtri mkep mkee mwor a0 = some (v, thr, mnow', medg', mcor', mtri', mkep', mkee', mwor') ∧ (thr = 0 → fl' 0 = v.toInt64) ∧ ∀ j, j < 56 → mnow' j = mnow j := by
  obtain ⟨⟨n, m, X, Y, L, H, hC, hM, hO⟩, hD, hH⟩ := ci
  have hC : CP n m X Y L H pxs pys plo phi pn pm := hC
  have hn := hO.1
  have hm := hO.2.1
  by_cases h : ∃ a, a < n ∧ a0 = i32 a
  case neg =>
    have top : s_Top_hole F pxs pys plo phi pn pm th tpxs tpys tplo tphi tlf tth tow tlk tel teh tco thu a0 = some (.inl "java/lang/IndexOutOfBoundsException") := by
      unfold s_Top_hole
      rw [hC.1, c_rpN hn h]; rfl
    refine ⟨(1 : Int32), (0 : Int32), tpxs, tpys, tplo, tphi, tpn, tpm, tlf, tth, tow, tlk, tel, teh, tco, thu, tne, tnt, tnh, mnow, medg, mcor, mtri, mkep, mkee, mwor, fl, ?_, ?_, fun z => absurd z (by decide), fun _ _ => rfl⟩
    · unfold s_Law_hole
      rw [top]
      simp only [Option.bind_some, Sum.elim_inl]
      rw [if_pos trivial]
    · unfold s_Mod_hole
      rw [m_isP hM hO]; simp only [Option.bind_some]
      rw [if_pos (bI_f h)]; rfl
  obtain ⟨a, ha, rfl⟩ := h
  have rp : s_Top_requirePoint pn (i32 a) = .inr () := by rw [hC.1]; exact c_rpY hn ha
  have mp : s_Mod_isPoint mnow (i32 a) = some true := by rw [m_isP hM hO, dB_t ⟨a, ha, rfl⟩]
  rcases q_loose hC hM hO (F := F) (by omega) ha with ⟨hl, r1, r2⟩ | ⟨r1, r2⟩
  case inr =>
    have top : s_Top_hole F pxs pys plo phi pn pm th tpxs tpys tplo tphi tlf tth tow tlk tel teh tco thu (i32 a) = some (.inl "java/lang/IllegalStateException") := by
      unfold s_Top_hole
      rw [rp]; simp only [Sum.elim_inr]
      rw [r1]; rfl
    refine ⟨(2 : Int32), (0 : Int32), tpxs, tpys, tplo, tphi, tpn, tpm, tlf, tth, tow, tlk, tel, teh, tco, thu, tne, tnt, tnh, mnow, medg, mcor, mtri, mkep, mkee, mwor, fl, ?_, ?_, fun z => absurd z (by decide), fun _ _ => rfl⟩
    · unfold s_Law_hole
      rw [top]
      simp only [Option.bind_some, Sum.elim_inl]
      rw [if_neg (by decide), if_pos trivial]
    · unfold s_Mod_hole
      rw [mp]; simp only [Option.bind_some]
      rw [if_neg (by decide), r2]; simp only [Option.bind_some]
      rw [if_neg (by decide)]; rfl
  obtain ⟨th1, ow1, o, hb, ⟨E, c, f, g, t, ta, tb, tc, T, hp9, D, K, B⟩, hth⟩ := see hC hM hO hD hF medg mcor
  obtain ⟨rfl, rfl⟩ := hth (by omega)
  obtain ⟨v1, v2, v3, v4, w1, w2, w3⟩ := c_pcopy F (by omega) tpxs tpys tplo tphi pxs pys plo phi pn pm
  obtain ⟨u1, u2, u3, u4, s1, c1⟩ := c_drop (cp_ext hO hC w2 w3) hO (F := F) (by omega) ha
  obtain ⟨mn', s2, c3⟩ := m_drop hM hO (F := F) (by omega) ha
  have c2 := ok_drop hO ha hl (X' := fun i => X (sh a i)) (Y' := fun i => Y (sh a i)) (L' := fun c => dn a (L c)) (H' := fun c => dn a (H c)) (fun i _ => ⟨rfl, rfl⟩) (fun c _ => ⟨rfl, rfl⟩)
  obtain ⟨⟨tlf', tth', tow', tlk', tel', teh', tco', thu', tne', tnt', tnh'⟩, o', d1, d2, ⟨E', c', f', g', t', ta', tb', tc', T', hp', D', K', B'⟩⟩ := draw_sim c1 c3 c2 F hF tlf tth tow tlk tel teh tco thu o.1 o.2.1
  obtain ⟨k1, k2, k3, kk, ke, _, kw⟩ := m_keeps F hF mnow o.1 o.2.1 mkep mkee mwor (t := t) D.2.2.2.2.1.1
  have G := D.1.1
  have G' := D'.1.1
  have TT := D.2.2.2.2.1
  have TT' := D'.2.2.2.2.1
  have ht := TT.1
  have ht' := TT'.1
  have wth : TH n (pt X Y) E th1 := K.2.1
  have wco : CoR t' ta' tb' tc' tco' := K'.2.2.2.2.2.1
  have wnt : tnt' = i32 t' := K'.2.2.2.2.2.2.2.2.1
  have bd : ∀ k, k < t → ta k < 16 ∧ tb k < 16 ∧ tc k < 16 := fun k hk => by
    have := ap_lt G (TT.2.1 k hk).1
    omega
  have bd' : ∀ k, k < t' → sh a (ta' k) < 16 ∧ sh a (tb' k) < 16 ∧ sh a (tc' k) < 16 ∧ ta' k < 16 ∧ tb' k < 16 ∧ tc' k < 16 := fun k hk => by
    have := ap_lt G' (TT'.2.1 k hk).1
    have x1 := sh_lt (i := ta' k) ha (by omega)
    have x2 := sh_lt (i := tb' k) ha (by omega)
    have x3 := sh_lt (i := tc' k) ha (by omega)
    omega
  obtain ⟨q, hq, q1⟩ := lp (fun fu i (k : Nat) => s_Top_hole_L40 th1 tco' (i32 t') (i32 a) fu (i32 k) (i32 i)) t' (fun i k => k = sumr i (fun j => ind (¬ Ap n (pt X Y) E (sh a (ta' j)) (sh a (tb' j)) (sh a (tc' j))))) (fun k => (i32 k, i32 t'))
    (fun fu s _ => by simp only [s_Top_hole_L40]; rw [if_pos (show s_Mesh_triangles (i32 t') ≤ i32 t' from y_le (by omega) (by omega))])
    (fun fu i s hi hs => by
      obtain ⟨x1, x2, x3⟩ := co3 wco ht' hi
      obtain ⟨y1, y2, y3, y4, y5, y6⟩ := bd' i hi
      have hh := c_hasT wth hn G y1 y2 (show sh a (tc' i) < 100 by omega)
      by_cases z : Ap n (pt X Y) E (sh a (ta' i)) (sh a (tb' i)) (sh a (tc' i))
      · refine ⟨s, by rw [sumr_s, ind_f (fun w => w z), hs]; rfl, ?_⟩
        simp only [s_Top_hole_L40, x1, x2, x3]
        rw [c_before (show ta' i < 100 by omega) (show a < 100 by omega), c_before (show tb' i < 100 by omega) (show a < 100 by omega), c_before (show tc' i < 100 by omega) (show a < 100 by omega), hh,
          if_neg (show ¬ (s_Mesh_triangles (i32 t') ≤ i32 i) from n_le (by omega) hi), if_neg (bI_t z), i32_s]
      · refine ⟨s + 1, by rw [sumr_s, ind_t z, hs], ?_⟩
        simp only [s_Top_hole_L40, x1, x2, x3]
        rw [c_before (show ta' i < 100 by omega) (show a < 100 by omega), c_before (show tb' i < 100 by omega) (show a < 100 by omega), c_before (show tc' i < 100 by omega) (show a < 100 by omega), hh,
          if_neg (show ¬ (s_Mesh_triangles (i32 t') ≤ i32 i) from n_le (by omega) hi), if_pos (bI_f z), i32_s, i32_s])
    t' 0 F 0 (by omega) (by omega) rfl
  have q1 : s_Top_hole_L40 th1 tco' (i32 t') (i32 a) F (0 : Int32) (0 : Int32) = some (i32 q, i32 t') := q1
  obtain ⟨p, hp9, p1⟩ := lp (fun fu i (k : Nat) => s_Mod_hole_L60 F o'.2.1 (i32 t') k1 (i32 a) (i32 t) fu (i32 k) (i32 i)) t (fun i k => k = sumr i (fun j => ind (ta j ≠ a ∧ tb j ≠ a ∧ tc j ≠ a ∧ Ap (n - 1) (pt (fun i => X (sh a i)) (fun i => Y (sh a i))) E' (dn a (ta j)) (dn a (tb j)) (dn a (tc j))))) (fun k => (i32 k, i32 t))
    (fun fu s _ => by simp only [s_Mod_hole_L60]; rw [if_pos (y_le (by omega) (by omega))])
    (fun fu i s hi hs => by
      obtain ⟨x1, x2, x3⟩ := ke3 B.2.1 ke ht hi
      obtain ⟨y1, y2, y3⟩ := bd i hi
      have dl : ∀ p, dn a p ≤ p := fun p => by unfold dn; split <;> omega
      have l1 := dl (ta i)
      have l2 := dl (tb i)
      have l3 := dl (tc i)
      obtain ⟨r, z1, z2⟩ := m_triB (F := F) TT' (by omega) G' B'.2.1 (by omega) (show dn a (ta i) < 100 by omega) (show dn a (tb i) < 100 by omega) (show dn a (tc i) < 100 by omega)
      have st := m_hstep (x3 := i32 s) (show a < 100 by omega) (show ta i < 100 by omega) (show tb i < 100 by omega) (show tc i < 100 by omega) hi ht fu x1 x2 x3 z1
      by_cases w : ta i ≠ a ∧ tb i ≠ a ∧ tc i ≠ a ∧ ¬ r < 0
      · rw [if_pos w, i32_s] at st
        refine ⟨s + 1, ?_, st⟩
        have z3 := z2.elim (fun z => z.1) (fun z => (w.2.2.2 z.2).elim)
        rw [sumr_s, ind_t ⟨w.1, w.2.1, w.2.2.1, z3⟩, hs]
      · rw [if_neg w] at st
        refine ⟨s, ?_, st⟩
        rw [sumr_s, ind_f (fun v => w ⟨v.1, v.2.1, v.2.2.1, z2.elim (fun z => nlt_of_le z.2) (fun z => (z.1 v.2.2.2).elim)⟩), hs]; rfl)
    t 0 F 0 (by omega) (by omega) rfl
  have p1 : s_Mod_hole_L60 F o'.2.1 (i32 t') k1 (i32 a) (i32 t) F (0 : Int32) (0 : Int32) = some (i32 p, i32 t) := p1
  have e9 := hole_cnt G TT G' TT' a
  have e8 := sumr_comp t' (fun k => Ap n (pt X Y) E (sh a (ta' k)) (sh a (tb' k)) (sh a (tc' k)))
  have pq : p + q = t' := by omega
  obtain ⟨mz, g1, g2⟩ := m_goes F hF k3 mn'
  have top : s_Top_hole F pxs pys plo phi pn pm th1 tpxs tpys tplo tphi tlf tth tow tlk tel teh tco thu (i32 a) = some (.inr (i32 q, u1, u2, u3, u4, i32 (n - 1), pm, tlf', tth', tow', tlk', tel', teh', tco', thu', tne', tnt', tnh')) := by
    unfold s_Top_hole
    rw [rp]; simp only [Sum.elim_inr]
    rw [r1]; simp only [Option.bind_some, Sum.elim_inr]
    rw [w1]; simp only [Option.bind_some]
    rw [s1]; simp only [Option.bind_some]
    rw [d1]; simp only [Option.bind_some]
    rw [wnt, q1]; rfl
  refine ⟨(0 : Int32), i32 q, u1, u2, u3, u4, i32 (n - 1), pm, tlf', tth', tow', tlk', tel', teh', tco', thu', tne', tnt', tnh', mz, o'.1, o'.2.1, o'.2.2, k1, k2, k3, vp_updL fl (0 : Int32).toNatClampNeg (i32 q).toInt64, ?_, ?_, fun _ => upd0 _ _, fun j hj => (g2 j hj).trans (kw j hj)⟩
  · unfold s_Law_hole
    rw [top]; rfl
  · have e2 : o.2.2 = i32 t := B.2.2
    have e3 : o'.2.2 = i32 t' := B'.2.2
    unfold s_Mod_hole
    rw [mp]; simp only [Option.bind_some]
    rw [if_neg (by decide), r2]; simp only [Option.bind_some]
    rw [if_pos (by decide), hb]; simp only [Option.bind_some]
    rw [e2, kk]; simp only [Option.bind_some]
    rw [s2]; simp only [Option.bind_some]
    rw [d2]; simp only [Option.bind_some]
    rw [e3, p1]; simp only [Option.bind_some]
    rw [g1]; simp only [Option.bind_some]
    rw [show i32 t' - i32 p = i32 q from by rw [i32_sub (by omega)]; congr 1; omega]
theorem ch_35 (ci : CI F (pxs, pys, plo, phi, pn, pm) (lf, th, ow, lk, el, eh, co, hu, ne, nt, nh) hp hnx hkp mnow mold mols) (hF : 1000 ≤ F) (a0 : Int32) :
    ∃ (thr v : Int32) (tpxs' : Nat → Int32) (tpys' : Nat → Int32) (tplo' : Nat → Int32) (tphi' : Nat → Int32) (tpn' : Int32) (tpm' : Int32) (tlf' : Nat → Int32) (tth' : Nat → Int32) (tow' : Nat → Int32) (tlk' : Nat → Int32) (tel' : Nat → Int32) (teh' : Nat → Int32) (tco' : Nat → Int32) (thu' : Nat → Int32) (tne' : Int32) (tnt' : Int32) (tnh' : Int32) (mnow' : Nat → Int32) (medg' : Nat → Int32) (mcor' : Nat → Int32) (mtri' : Int32) (mkep' : Nat → Int32) (mkee' : Nat → Int32) (mwor' : Nat → Int32) (fl' : Nat → Int64),
      s_Law_effect F pxs pys plo phi pn pm el eh ne tpxs tpys tplo tphi tpn tpm tlf tth tow tlk tel teh tco thu tne tnt tnh a0 fl = some (thr, tpxs', tpys', tplo', tphi', tpn', tpm', tlf', tth', tow', tlk', tel', teh', tco', thu', tne', tnt', tnh', fl') ∧ s_Mod_effect F mnow medg mcor mtri mkep mkee mwor a0 = some (v, thr, mnow', medg', mcor', mtri', mkep', mkee', mwor') ∧ (thr = 0 → fl' 0 = v.toInt64) ∧ ∀ j, j < 56 → mnow' j = mnow j := by
  obtain ⟨⟨n, m, X, Y, L, H, hC, hM, hO⟩, hD, hH⟩ := ci
  have hC : CP n m X Y L H pxs pys plo phi pn pm := hC
  have hn := hO.1
  have hm := hO.2.1
  by_cases h : ∃ a, a < m ∧ a0 = i32 a
  case neg =>
    have top : s_Top_effect F pxs pys plo phi pn pm el eh ne tpxs tpys tplo tphi tlf tth tow tlk tel teh tco thu a0 = some (.inl "java/lang/IndexOutOfBoundsException") := by
      unfold s_Top_effect
      rw [hC.2.1, c_rcN hm h]; rfl
    refine ⟨(1 : Int32), (0 : Int32), tpxs, tpys, tplo, tphi, tpn, tpm, tlf, tth, tow, tlk, tel, teh, tco, thu, tne, tnt, tnh, mnow, medg, mcor, mtri, mkep, mkee, mwor, fl, ?_, ?_, fun z => absurd z (by decide), fun _ _ => rfl⟩
    · unfold s_Law_effect
      rw [top]
      simp only [Option.bind_some, Sum.elim_inl]
      rw [if_pos trivial]
    · unfold s_Mod_effect
      rw [m_isC hM hO]; simp only [Option.bind_some]
      rw [if_pos (bI_f h)]; rfl
  obtain ⟨a, ha, rfl⟩ := h
  have rp : s_Top_requireConstraint pm (i32 a) = .inr () := by rw [hC.2.1]; exact c_rcY hm ha
  have mp : s_Mod_isConstraint mnow (i32 a) = some true := by rw [m_isC hM hO, dB_t ⟨a, ha, rfl⟩]
  obtain ⟨th1, ow1, o, hb, ⟨E, c, f, g, t, ta, tb, tc, T, hp9, D, K, B⟩, _⟩ := see hC hM hO hD hF medg mcor
  obtain ⟨v1, v2, v3, v4, w1, w2, w3⟩ := c_pcopy F (by omega) tpxs tpys tplo tphi pxs pys plo phi pn pm
  obtain ⟨u1, u2, s1, c1⟩ := c_untie (cp_ext hO hC w2 w3) hO (F := F) (by omega) ha
  obtain ⟨mn', s2, c3⟩ := m_untie hM hO (F := F) (by omega) ha
  have c2 := ok_unc hO ha (L' := fun c => L (sh a c)) (H' := fun c => H (sh a c)) (fun c _ => ⟨rfl, rfl⟩)
  obtain ⟨⟨tlf', tth', tow', tlk', tel', teh', tco', thu', tne', tnt', tnh'⟩, o', d1, d2, ⟨E', c', f', g', t', ta', tb', tc', T', hp', D', K', B'⟩⟩ := draw_sim c1 c3 c2 F hF tlf tth tow tlk tel teh tco thu o.1 o.2.1
  obtain ⟨k1, k2, k3, kk, _, kd, kw⟩ := m_keeps F hF mnow o.1 o.2.1 mkep mkee mwor (t := t) D.2.2.2.2.1.1
  have G := D.1.1
  have G' := D'.1.1
  have hc := D.2.2.1
  have hL := D.2.2.2.1
  have hc' := D'.2.2.1
  have hL' := D'.2.2.2.1
  have wE : EdR c f g el eh := K.2.2.2.2.1
  have wE' : EdR c' f' g' tel' teh' := K'.2.2.2.2.1
  have wne : ne = i32 c := K.2.2.2.2.2.2.2.1
  have wne' : tne' = i32 c' := K'.2.2.2.2.2.2.2.1
  have hR : ∀ u v, E u v ∧ u < v → u < v ∧ v < n := fun u v h => ⟨h.2, (G.2.2.1 u v h.1).2.1⟩
  have fg' : ∀ k, k < c' → f' k < 16 ∧ g' k < 16 := fun k hk => by have := fg_lt G' hL' hk; omega
  obtain ⟨q, hq, q1⟩ := lp (fun fu i (k : Nat) => s_Top_effect_L35 F el eh (i32 c) tel' teh' (i32 c') fu (i32 k) (i32 i)) c (fun i k => k = sumr i (fun j => ind (¬ E' (f j) (g j)))) (fun k => (i32 k, i32 c))
    (fun fu s _ => by simp only [s_Top_effect_L35]; rw [if_pos (show s_Mesh_edges (i32 c) ≤ i32 c from y_le (by omega) (by omega))])
    (fun fu i s hi hs => by
      obtain ⟨x1, x2, x3, x4⟩ := fg_lt G hL hi
      have lo : s_Mesh_lowEnd el (i32 i) = i32 (f i) := by unfold s_Mesh_lowEnd; rw [rget el (by omega) (by omega), (wE i hi).1]
      have hi9 : s_Mesh_highEnd eh (i32 i) = i32 (g i) := by unfold s_Mesh_highEnd; rw [rget eh (by omega) (by omega), (wE i hi).2]
      obtain ⟨r, z1, z2⟩ := c_edgeOf hc' wE' fg' F (by omega) (show f i < 16 by omega) (show g i < 16 by omega)
      rw [Nat.min_eq_left (by omega), Nat.max_eq_right (by omega)] at z2
      rcases z2 with ⟨k, y1, y2, y3, _, rfl⟩ | ⟨y1, rfl⟩
      · have ee : E' (f i) (g i) := by
          have := (hL'.1 k y1).1
          rw [y2, y3] at this
          exact this
        refine ⟨s, by rw [sumr_s, ind_f (fun w => w ee), hs]; rfl, ?_⟩
        simp only [s_Top_effect_L35, lo, hi9, z1, Option.bind_some]
        rw [if_neg (show ¬ (s_Mesh_edges (i32 c) ≤ i32 i) from n_le (by omega) hi), if_neg (i32_m1 (by omega)), i32_s]
      · have ee : ¬ E' (f i) (g i) := fun z => by
          obtain ⟨k, q1, q2, q3⟩ := hL'.2.2 (f i) (g i) ⟨z, x3⟩
          exact y1 k q1 ⟨q2, q3⟩
        refine ⟨s + 1, by rw [sumr_s, ind_t ee, hs], ?_⟩
        simp only [s_Top_effect_L35, lo, hi9, z1, Option.bind_some]
        rw [if_neg (show ¬ (s_Mesh_edges (i32 c) ≤ i32 i) from n_le (by omega) hi), if_pos trivial, i32_s, i32_s])
    c 0 F 0 (by omega) (by omega) rfl
  have q1 : s_Top_effect_L35 F el eh (i32 c) tel' teh' (i32 c') F (0 : Int32) (0 : Int32) = some (i32 q, i32 c) := q1
  have kv : ∀ x i, x < n → i < n → aget 289 k2 (((17 : Int32) * i32 x) + i32 i) = some (bI (dB (E x i))) := by
    intro x i hx hi
    rw [show (17 : Int32) * i32 x = i32 (17 * x) from i32_mul 17 x, i32_add, aget_i k2 (show 17 * x + i < 289 by omega) (by omega), kd _ (by omega), B.1 x i (by omega) (by omega), vp_b]
  have inner : ∀ x k, x < n → Pos c f g k x (x + 1) → ∃ k', Pos c f g k' (x + 1) (x + 2) ∧
      s_Mod_effect_L53 mn' o'.1 k2 (i32 x) F (i32 (sumr k (fun j => ind (¬ E' (f j) (g j))))) (i32 (x + 1)) = some (i32 (sumr k' (fun j => ind (¬ E' (f j) (g j)))), i32 n) := by
    intro x k hx hp
    obtain ⟨k', ⟨_, q1⟩, q2⟩ := lp (fun fu i (k : Nat) => s_Mod_effect_L53 mn' o'.1 k2 (i32 x) fu (i32 (sumr k (fun j => ind (¬ E' (f j) (g j))))) (i32 i)) n (fun i k => x < i ∧ Pos c f g k x i)
      (fun k => (i32 (sumr k (fun j => ind (¬ E' (f j) (g j)))), i32 n))
      (fun fu s hs => by simp only [s_Mod_effect_L53, m_n c3, Option.bind_some]; rw [if_pos (y_le (by omega) (by omega))])
      (fun fu i s hi ⟨hai, hs⟩ => by
        by_cases e : E x i
        · obtain ⟨q0, q1, q2, q⟩ := pos_hit hL hs ⟨e, hai⟩
          refine ⟨s + 1, ⟨by omega, q⟩, ?_⟩
          simp only [s_Mod_effect_L53, m_n c3, Option.bind_some, kv x i hx hi, m_has B'.1 (show x < 17 by omega) (show i < 17 by omega)]
          rw [if_neg (n_le (by omega) hi), if_neg (bI_t e), sumr_s, q1, q2]
          by_cases z : E' x i
          · rw [if_neg (bI_t z), ind_f (fun w => w z), i32_s]; rfl
          · rw [if_pos (bI_f z), ind_t z, i32_s, i32_s]
        · refine ⟨s, ⟨by omega, pos_miss hL hs (fun z => e z.1)⟩, ?_⟩
          simp only [s_Mod_effect_L53, m_n c3, Option.bind_some, kv x i hx hi]
          rw [if_neg (n_le (by omega) hi), if_pos (bI_f e), i32_s])
      (n - (x + 1)) (x + 1) F k (by omega) (by omega) ⟨by omega, hp⟩
    exact ⟨k', pos_row hR hL q1, q2⟩
  obtain ⟨k', y1, y2⟩ := lp (fun fu i (k : Nat) => s_Mod_effect_L40 F mn' o'.1 k2 fu (i32 (sumr k (fun j => ind (¬ E' (f j) (g j))))) (i32 i)) n (fun i k => Pos c f g k i (i + 1))
    (fun k => (i32 (sumr k (fun j => ind (¬ E' (f j) (g j)))), i32 n))
    (fun fu s hs => by simp only [s_Mod_effect_L40, m_n c3, Option.bind_some]; rw [if_pos (y_le (by omega) (by omega))])
    (fun fu i s hi hs => by
      obtain ⟨k', q1, q2⟩ := inner i s hi hs
      refine ⟨k', q1, ?_⟩
      simp only [s_Mod_effect_L40, m_n c3, Option.bind_some]
      rw [if_neg (n_le (by omega) hi), i32_s, q2]
      simp only [Option.bind_some])
    n 0 F 0 (by omega) (by omega) (pos_0 hR hL)
  have := pos_end hR hL y1
  subst this
  have y2 : s_Mod_effect_L40 F mn' o'.1 k2 F (0 : Int32) (0 : Int32) = some (i32 (sumr k' (fun j => ind (¬ E' (f j) (g j)))), i32 n) := y2
  rw [← hq] at y2
  obtain ⟨mz, g1, g2⟩ := m_goes F hF k3 mn'
  have top : s_Top_effect F pxs pys plo phi pn pm el eh ne tpxs tpys tplo tphi tlf tth tow tlk tel teh tco thu (i32 a) = some (.inr (i32 q, v1, v2, u1, u2, pn, i32 (m - 1), tlf', tth', tow', tlk', tel', teh', tco', thu', tne', tnt', tnh')) := by
    unfold s_Top_effect
    rw [rp]; simp only [Sum.elim_inr]
    rw [w1]; simp only [Option.bind_some]
    rw [s1]; simp only [Option.bind_some]
    rw [d1]; simp only [Option.bind_some]
    rw [wne, wne', q1]; rfl
  refine ⟨(0 : Int32), i32 q, v1, v2, u1, u2, pn, i32 (m - 1), tlf', tth', tow', tlk', tel', teh', tco', thu', tne', tnt', tnh', mz, o'.1, o'.2.1, o'.2.2, k1, k2, k3, vp_updL fl (0 : Int32).toNatClampNeg (i32 q).toInt64, ?_, ?_, fun _ => upd0 _ _, fun j hj => (g2 j hj).trans (kw j hj)⟩
  · unfold s_Law_effect
    rw [top]; rfl
  · have e2 : o.2.2 = i32 t := B.2.2
    unfold s_Mod_effect
    rw [mp]; simp only [Option.bind_some]
    rw [if_neg (by decide), hb]; simp only [Option.bind_some]
    rw [e2, kk]; simp only [Option.bind_some]
    rw [s2]; simp only [Option.bind_some]
    rw [d2]; simp only [Option.bind_some]
    rw [y2]; simp only [Option.bind_some]
    rw [g1]; rfl
theorem k_32 (ci : CI F (pxs, pys, plo, phi, pn, pm) (lf, th, ow, lk, el, eh, co, hu, ne, nt, nh) hp hnx hkp mnow mold mols) (hF : 1000 ≤ F) :
    ∃ (tpxs' : Nat → Int32) (tpys' : Nat → Int32) (tplo' : Nat → Int32) (tphi' : Nat → Int32) (tpn' : Int32) (tpm' : Int32) (tlf' : Nat → Int32) (tth' : Nat → Int32) (tow' : Nat → Int32) (tlk' : Nat → Int32) (tel' : Nat → Int32) (teh' : Nat → Int32) (tco' : Nat → Int32) (thu' : Nat → Int32) (tne' : Int32) (tnt' : Int32) (tnh' : Int32) (thr : Int32) (mnow' : Nat → Int32) (medg' : Nat → Int32) (mcor' : Nat → Int32) (mtri' : Int32) (mkep' : Nat → Int32) (mkee' : Nat → Int32) (mwor' : Nat → Int32) (fl' : Nat → Int64), s_case_32 F xs pxs pys plo phi pn pm co nt tpxs tpys tplo tphi tpn tpm tlf tth tow tlk tel teh tco thu tne tnt tnh mnow medg mcor mtri mkep mkee mwor fl x5 = some (tpxs', tpys', tplo', tphi', tpn', tpm', tlf', tth', tow', tlk', tel', teh', tco', thu', tne', tnt', tnh', thr, mnow', medg', mcor', mtri', mkep', mkee', mwor', fl') ∧ CI F (pxs, pys, plo, phi, pn, pm) (lf, th, ow, lk, el, eh, co, hu, ne, nt, nh) hp hnx hkp mnow' mold mols := by
  obtain ⟨thr, v, tpxs', tpys', tplo', tphi', tpn', tpm', tlf', tth', tow', tlk', tel', teh', tco', thu', tne', tnt', tnh', mnow', medg', mcor', mtri', mkep', mkee', mwor', fl', h1, h2, h3, h4⟩ := ch_32 (fl := fl) (medg := medg) (mcor := mcor) (mtri := mtri) (mkep := mkep) (mkee := mkee) (mwor := mwor) (tpxs := tpxs) (tpys := tpys) (tplo := tplo) (tphi := tphi) (tpn := tpn) (tpm := tpm) (tlf := tlf) (tth := tth) (tow := tow) (tlk := tlk) (tel := tel) (teh := teh) (tco := tco) (thu := thu) (tne := tne) (tnt := tnt) (tnh := tnh) ci hF (xs (x5 + (1 : Int32)).toNatClampNeg) (xs (x5 + (2 : Int32)).toNatClampNeg)
  refine ⟨tpxs', tpys', tplo', tphi', tpn', tpm', tlf', tth', tow', tlk', tel', teh', tco', thu', tne', tnt', tnh', thr, mnow', medg', mcor', mtri', mkep', mkee', mwor', fl', ?_, pr_ext ci.1 h4, ci.2.1, ci.2.2⟩
  unfold s_case_32
  rw [h1, h2]
  simp only [Option.bind_some]
  rw [if_pos (show s_Mod_thrown thr = thr from rfl)]
  by_cases c : thr = 0
  · rw [if_pos c, if_pos]
    show lg_cmp (fl' 0) v.toInt64 = 0
    rw [h3 c]; exact lgc _
  · rw [if_neg c]
theorem k_33 (ci : CI F (pxs, pys, plo, phi, pn, pm) (lf, th, ow, lk, el, eh, co, hu, ne, nt, nh) hp hnx hkp mnow mold mols) (hF : 1000 ≤ F) :
    ∃ (tpxs' : Nat → Int32) (tpys' : Nat → Int32) (tplo' : Nat → Int32) (tphi' : Nat → Int32) (tpn' : Int32) (tpm' : Int32) (tlf' : Nat → Int32) (tth' : Nat → Int32) (tow' : Nat → Int32) (tlk' : Nat → Int32) (tel' : Nat → Int32) (teh' : Nat → Int32) (tco' : Nat → Int32) (thu' : Nat → Int32) (tne' : Int32) (tnt' : Int32) (tnh' : Int32) (thr : Int32) (mnow' : Nat → Int32) (medg' : Nat → Int32) (mcor' : Nat → Int32) (mtri' : Int32) (mkep' : Nat → Int32) (mkee' : Nat → Int32) (mwor' : Nat → Int32) (fl' : Nat → Int64), s_case_33 F xs pxs pys plo phi pn pm th tpxs tpys tplo tphi tpn tpm tlf tth tow tlk tel teh tco thu tne tnt tnh mnow medg mcor mtri mkep mkee mwor fl x5 = some (tpxs', tpys', tplo', tphi', tpn', tpm', tlf', tth', tow', tlk', tel', teh', tco', thu', tne', tnt', tnh', thr, mnow', medg', mcor', mtri', mkep', mkee', mwor', fl') ∧ CI F (pxs, pys, plo, phi, pn, pm) (lf, th, ow, lk, el, eh, co, hu, ne, nt, nh) hp hnx hkp mnow' mold mols := by
  obtain ⟨thr, v, tpxs', tpys', tplo', tphi', tpn', tpm', tlf', tth', tow', tlk', tel', teh', tco', thu', tne', tnt', tnh', mnow', medg', mcor', mtri', mkep', mkee', mwor', fl', h1, h2, h3, h4⟩ := ch_33 (fl := fl) (medg := medg) (mcor := mcor) (mtri := mtri) (mkep := mkep) (mkee := mkee) (mwor := mwor) (tpxs := tpxs) (tpys := tpys) (tplo := tplo) (tphi := tphi) (tpn := tpn) (tpm := tpm) (tlf := tlf) (tth := tth) (tow := tow) (tlk := tlk) (tel := tel) (teh := teh) (tco := tco) (thu := thu) (tne := tne) (tnt := tnt) (tnh := tnh) ci hF (xs (x5 + (1 : Int32)).toNatClampNeg)
  refine ⟨tpxs', tpys', tplo', tphi', tpn', tpm', tlf', tth', tow', tlk', tel', teh', tco', thu', tne', tnt', tnh', thr, mnow', medg', mcor', mtri', mkep', mkee', mwor', fl', ?_, pr_ext ci.1 h4, ci.2.1, ci.2.2⟩
  unfold s_case_33
  rw [h1, h2]
  simp only [Option.bind_some]
  rw [if_pos (show s_Mod_thrown thr = thr from rfl)]
  by_cases c : thr = 0
  · rw [if_pos c, if_pos]
    show lg_cmp (fl' 0) v.toInt64 = 0
    rw [h3 c]; exact lgc _
  · rw [if_neg c]
theorem k_35 (ci : CI F (pxs, pys, plo, phi, pn, pm) (lf, th, ow, lk, el, eh, co, hu, ne, nt, nh) hp hnx hkp mnow mold mols) (hF : 1000 ≤ F) :
    ∃ (tpxs' : Nat → Int32) (tpys' : Nat → Int32) (tplo' : Nat → Int32) (tphi' : Nat → Int32) (tpn' : Int32) (tpm' : Int32) (tlf' : Nat → Int32) (tth' : Nat → Int32) (tow' : Nat → Int32) (tlk' : Nat → Int32) (tel' : Nat → Int32) (teh' : Nat → Int32) (tco' : Nat → Int32) (thu' : Nat → Int32) (tne' : Int32) (tnt' : Int32) (tnh' : Int32) (thr : Int32) (mnow' : Nat → Int32) (medg' : Nat → Int32) (mcor' : Nat → Int32) (mtri' : Int32) (mkep' : Nat → Int32) (mkee' : Nat → Int32) (mwor' : Nat → Int32) (fl' : Nat → Int64), s_case_35 F xs pxs pys plo phi pn pm el eh ne tpxs tpys tplo tphi tpn tpm tlf tth tow tlk tel teh tco thu tne tnt tnh mnow medg mcor mtri mkep mkee mwor fl x5 = some (tpxs', tpys', tplo', tphi', tpn', tpm', tlf', tth', tow', tlk', tel', teh', tco', thu', tne', tnt', tnh', thr, mnow', medg', mcor', mtri', mkep', mkee', mwor', fl') ∧ CI F (pxs, pys, plo, phi, pn, pm) (lf, th, ow, lk, el, eh, co, hu, ne, nt, nh) hp hnx hkp mnow' mold mols := by
  obtain ⟨thr, v, tpxs', tpys', tplo', tphi', tpn', tpm', tlf', tth', tow', tlk', tel', teh', tco', thu', tne', tnt', tnh', mnow', medg', mcor', mtri', mkep', mkee', mwor', fl', h1, h2, h3, h4⟩ := ch_35 (fl := fl) (medg := medg) (mcor := mcor) (mtri := mtri) (mkep := mkep) (mkee := mkee) (mwor := mwor) (tpxs := tpxs) (tpys := tpys) (tplo := tplo) (tphi := tphi) (tpn := tpn) (tpm := tpm) (tlf := tlf) (tth := tth) (tow := tow) (tlk := tlk) (tel := tel) (teh := teh) (tco := tco) (thu := thu) (tne := tne) (tnt := tnt) (tnh := tnh) ci hF (xs (x5 + (1 : Int32)).toNatClampNeg)
  refine ⟨tpxs', tpys', tplo', tphi', tpn', tpm', tlf', tth', tow', tlk', tel', teh', tco', thu', tne', tnt', tnh', thr, mnow', medg', mcor', mtri', mkep', mkee', mwor', fl', ?_, pr_ext ci.1 h4, ci.2.1, ci.2.2⟩
  unfold s_case_35
  rw [h1, h2]
  simp only [Option.bind_some]
  rw [if_pos (show s_Mod_thrown thr = thr from rfl)]
  by_cases c : thr = 0
  · rw [if_pos c, if_pos]
    show lg_cmp (fl' 0) v.toInt64 = 0
    rw [h3 c]; exact lgc _
  · rw [if_neg c]
end CG8

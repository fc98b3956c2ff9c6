section HULL
variable {n m : Nat} {X Y : Nat → Int} {L H : Nat → Nat} {pxs pys plo phi : Nat → Int32} {pn pm : Int32} {mnow : Nat → Int32}
/-- the hull by its numbers -/
def HuD (n : Nat) (P : Nat → Int × Int × Int) (E : Nat → Nat → Prop) (T : Nat) (hp : Nat → Nat) : Prop :=
  T ≤ n ∧ (∀ k, k < T → Hu n P E (hp k) (hp (if k + 1 < T then k + 1 else 0))) ∧ (0 < T → ∀ p, p < hp 0 → ¬ ∃ q, Hu n P E p q) ∧
    sumr n (fun p => ind (∃ q, Hu n P E p q)) = T ∧ (T = 0 → ∀ p, ¬ ∃ q, Hu n P E p q)
/-- the answer of a search for the next point of the hull -/
def Nr (n : Nat) (P : Nat → Int × Int × Int) (E : Nat → Nat → Prop) (p : Nat) (x : Int32) : Prop :=
  (∃ q, Hu n P E p q ∧ x = i32 q) ∨ ((∀ q, ¬ Hu n P E p q) ∧ x = (-1 : Int32))
theorem hu_lt {P : Nat → Int × Int × Int} {E : Nat → Nat → Prop} (G : Ge n P E) {p q : Nat} (h : Hu n P E p q) : p < n ∧ q < n := by
  obtain ⟨⟨c, hc⟩, _⟩ := h
  exact ⟨(ap_lt G hc).1, (ap_lt G hc).2.1⟩
theorem c_next {P : Nat → Int × Int × Int} (hn : n ≤ 16) {E : Nat → Nat → Prop} (G : Ge n P E) {th : Nat → Int32} (hT : TH n P E th) (F : Nat) (hF : 300 ≤ F) {p : Nat} (hp : p < 16) :
    ∃ x, s_Mesh_nextOnHull F (i32 n) th (i32 p) = some x ∧ Nr n P E p x := by
  have t1 : ∀ u v, u < 16 → v < 16 → (s_Tab_get (-1) th (i32 u) (i32 v) = (-1 : Int32) ↔ ∀ w, ¬ Ap n P E u v w) := by
    intro u v hu hv
    rcases th_ar hT hu hv with ⟨w, w1, w2⟩ | ⟨w1, w2⟩
    · rw [w2]
      exact ⟨fun k => (i32_m1 (by have := ap_lt G w1; omega) k).elim, fun k => (k w w1).elim⟩
    · rw [w2]; exact ⟨fun _ => w1, fun _ => rfl⟩
  have h := ff (fun k i => s_Mesh_nextOnHull_L2 (i32 n) th (i32 p) k (i32 i)) n (fun q => Hu n P E p q) (fun q => Sum.inl (i32 q)) (Sum.inr (i32 n))
    (fun k => by simp only [s_Mesh_nextOnHull_L2]; rw [if_pos (show s_Plan_points (i32 n) ≤ i32 n from y_le (by omega) (by omega))])
    (fun k i hi ⟨⟨c, hc⟩, h⟩ => by
      simp only [s_Mesh_nextOnHull_L2]
      rw [if_neg (show ¬ (s_Plan_points (i32 n) ≤ i32 i) from n_le (by omega) hi), if_neg (fun k => (t1 p i hp (by omega)).1 k c hc), if_pos ((t1 i p (by omega) hp).2 h)])
    (fun k i hi h => by
      simp only [s_Mesh_nextOnHull_L2]
      rw [if_neg (show ¬ (s_Plan_points (i32 n) ≤ i32 i) from n_le (by omega) hi), i32_s]
      by_cases c1 : ∀ w, ¬ Ap n P E p i w
      · rw [if_pos ((t1 p i hp (by omega)).2 c1)]
      · rw [if_neg (fun k => c1 ((t1 p i hp (by omega)).1 k))]
        by_cases c2 : ∀ w, ¬ Ap n P E i p w
        · exfalso
          apply c1
          intro w hw
          exact h ⟨⟨w, hw⟩, c2⟩
        · rw [if_neg (fun k => c2 ((t1 i p (by omega) hp).1 k))])
    n 0 F (by omega) (by omega)
  unfold s_Mesh_nextOnHull
  rcases h with ⟨j, _, h1, h2, _, e⟩ | ⟨h1, e⟩
  · have e : s_Mesh_nextOnHull_L2 (i32 n) th (i32 p) F (0 : Int32) = some (Sum.inl (i32 j)) := e
    rw [e]
    exact ⟨i32 j, rfl, Or.inl ⟨j, h2, rfl⟩⟩
  · have e : s_Mesh_nextOnHull_L2 (i32 n) th (i32 p) F (0 : Int32) = some (Sum.inr (i32 n)) := e
    rw [e]
    exact ⟨-1, rfl, Or.inr ⟨fun q hq => h1 q (by omega) (hu_lt G hq).2 hq, rfl⟩⟩
theorem c_first {P : Nat → Int × Int × Int} (hn : n ≤ 16) {E : Nat → Nat → Prop} (G : Ge n P E) {th : Nat → Int32} (hT : TH n P E th) (F : Nat) (hF : 300 ≤ F) :
    ∃ x, s_Mesh_firstOnHull F (i32 n) th = some x ∧ ((∃ p, (∃ q, Hu n P E p q) ∧ (∀ r, r < p → ¬ ∃ q, Hu n P E r q) ∧ x = i32 p) ∨ ((∀ p, ¬ ∃ q, Hu n P E p q) ∧ x = (-1 : Int32))) := by
  have h := ff (fun k i => s_Mesh_firstOnHull_L2 F (i32 n) th k (i32 i)) n (fun p => ∃ q, Hu n P E p q) (fun q => Sum.inl (i32 q)) (Sum.inr (i32 n))
    (fun k => by simp only [s_Mesh_firstOnHull_L2]; rw [if_pos (show s_Plan_points (i32 n) ≤ i32 n from y_le (by omega) (by omega))])
    (fun k i hi ⟨q, hq⟩ => by
      obtain ⟨x, hx, nx⟩ := c_next hn G hT F hF (show i < 16 by omega)
      simp only [s_Mesh_firstOnHull_L2]
      rw [if_neg (show ¬ (s_Plan_points (i32 n) ≤ i32 i) from n_le (by omega) hi), hx]
      simp only [Option.bind_some]
      rcases nx with ⟨q', h1, rfl⟩ | ⟨h1, _⟩
      · rw [if_neg (i32_m1 (by have := hu_lt G h1; omega))]
      · exact (h1 q hq).elim)
    (fun k i hi h => by
      obtain ⟨x, hx, nx⟩ := c_next hn G hT F hF (show i < 16 by omega)
      simp only [s_Mesh_firstOnHull_L2]
      rw [if_neg (show ¬ (s_Plan_points (i32 n) ≤ i32 i) from n_le (by omega) hi), hx]
      simp only [Option.bind_some]
      rcases nx with ⟨q', h1, _⟩ | ⟨h1, rfl⟩
      · exact (h ⟨q', h1⟩).elim
      · rw [if_pos rfl, i32_s])
    n 0 F (by omega) (by omega)
  unfold s_Mesh_firstOnHull
  rcases h with ⟨j, _, h1, h2, h3, e⟩ | ⟨h1, e⟩
  · have e : s_Mesh_firstOnHull_L2 F (i32 n) th F (0 : Int32) = some (Sum.inl (i32 j)) := e
    rw [e]
    exact ⟨i32 j, rfl, Or.inl ⟨j, h2, fun r hr => h3 r (by omega) hr, rfl⟩⟩
  · have e : s_Mesh_firstOnHull_L2 F (i32 n) th F (0 : Int32) = some (Sum.inr (i32 n)) := e
    rw [e]
    exact ⟨-1, rfl, Or.inr ⟨fun p ⟨q, hq⟩ => h1 p (by omega) (hu_lt G hq).1 ⟨q, hq⟩, rfl⟩⟩
theorem c_hull {P : Nat → Int × Int × Int} (hn : n ≤ 16) {E : Nat → Nat → Prop} (G : Gs n P E) (B : Bx n P) {th : Nat → Int32} (hT : TH n P E th) (F : Nat) (hF : 300 ≤ F) (hu : Nat → Int32) :
    ∃ hu' T hp, s_Mesh_numberHull F (i32 n) th hu = some (hu', i32 T) ∧ (∀ k, k < T → hu' k = i32 (hp k)) ∧ HuD n P E T hp := by
  classical
  obtain ⟨x, hx, ax⟩ := c_first hn G.1 hT F hF
  unfold s_Mesh_numberHull
  rw [hx]
  simp only [Option.bind_some]
  rcases ax with ⟨h0, hh, hl, rfl⟩ | ⟨hl, rfl⟩
  · have hf : ∀ p q, Hu n P E p q → (if h : ∃ q, Hu n P E p q then Classical.choose h else 0) = q := by
      intro p q hq
      have h : ∃ q, Hu n P E p q := ⟨q, hq⟩
      rw [dif_pos h]
      exact hu_f G.1 G.2.1 (Classical.choose_spec h) hq
    generalize hfd : (fun p => if h : ∃ q, Hu n P E p q then Classical.choose h else 0) = f
    have hf : ∀ p q, Hu n P E p q → f p = q := by intro p q hq; rw [← hfd]; exact hf p q hq
    obtain ⟨T, t1, t2, t3, t4, t5, t6, t7⟩ := hull_cyc G.1 B G.2.1 f hf h0 hh
    have step : ∀ k, Hu n P E (itr f k h0) (itr f (k + 1) h0) := by
      intro k
      obtain ⟨q, hq⟩ := t5 k
      have := hf _ _ hq
      show Hu n P E (itr f k h0) (f (itr f k h0))
      rw [this]; exact hq
    have lt : ∀ k, itr f k h0 < n := fun k => (hu_lt G.1 (step k)).1
    -- the loop
    have run : ∀ d k fu (hu : Nat → Int32), k + d + 1 = T → d + 2 < fu → (∀ j, j < k → hu j = i32 (itr f j h0)) →
        ∃ hu', s_Mesh_numberHull_L10 F (i32 n) th fu (i32 (itr f k h0)) hu (i32 k) = some ((-1 : Int32), hu', i32 T) ∧ ∀ j, j < T → hu' j = i32 (itr f j h0) := by
      intro d
      induction d with
      | zero =>
        intro k fu hu hk hfu hh'
        obtain ⟨fu, rfl⟩ : ∃ j, fu = j + 1 := ⟨fu - 1, by omega⟩
        obtain ⟨y, hy, ny⟩ := c_next hn G.1 hT F hF (show itr f k h0 < 16 by have := lt k; omega)
        have hset : ∀ j, j < k + 1 → (s_Row_set 16 hu (i32 k) (i32 (itr f k h0))) j = i32 (itr f j h0) := by
          intro j hj
          rw [rset hu _ (by omega) (by omega)]
          show (if j = k then i32 (itr f k h0) else hu j) = _
          by_cases c : j = k
          · rw [if_pos c, c]
          · rw [if_neg c]; exact hh' j (by omega)
        have g0 : s_Row_get 16 (s_Row_set 16 hu (i32 k) (i32 (itr f k h0))) (0 : Int32) = i32 h0 := by
          have := rget (n := 16) (s_Row_set 16 hu (i32 k) (i32 (itr f k h0))) (k := 0) (by omega) (by omega)
          rw [show (0 : Int32) = i32 0 from rfl, this, hset 0 (by omega)]; rfl
        rcases ny with ⟨q, q1, rfl⟩ | ⟨q1, _⟩
        · have e := hu_f G.1 G.2.1 (step k) q1
          have e2 : itr f (k + 1) h0 = h0 := by rw [show k + 1 = T by omega]; exact t3
          refine ⟨s_Row_set 16 hu (i32 k) (i32 (itr f k h0)), ?_, fun j hj => hset j (by omega)⟩
          obtain ⟨fu, rfl⟩ : ∃ j, fu = j + 1 := ⟨fu - 1, by omega⟩
          rw [s_Mesh_numberHull_L10]
          rw [if_neg (show ¬ ((16 : Int32) ≤ i32 k) from n_le (a := 16) (by omega) (by omega)), if_neg (i32_m1 (by have := lt k; omega)), hy]
          simp only [Option.bind_some]
          rw [g0, if_pos (by rw [← e, e2]), i32_s, show k + 1 = T by omega]
          rw [s_Mesh_numberHull_L10]
          by_cases c : (16 : Int32) ≤ i32 T
          · rw [if_pos c]
          · rw [if_neg c, if_pos rfl]
        · exact (q1 _ (step k)).elim
      | succ d ih =>
        intro k fu hu hk hfu hh'
        obtain ⟨fu, rfl⟩ : ∃ j, fu = j + 1 := ⟨fu - 1, by omega⟩
        obtain ⟨y, hy, ny⟩ := c_next hn G.1 hT F hF (show itr f k h0 < 16 by have := lt k; omega)
        have hset : ∀ j, j < k + 1 → (s_Row_set 16 hu (i32 k) (i32 (itr f k h0))) j = i32 (itr f j h0) := by
          intro j hj
          rw [rset hu _ (by omega) (by omega)]
          show (if j = k then i32 (itr f k h0) else hu j) = _
          by_cases c : j = k
          · rw [if_pos c, c]
          · rw [if_neg c]; exact hh' j (by omega)
        have g0 : s_Row_get 16 (s_Row_set 16 hu (i32 k) (i32 (itr f k h0))) (0 : Int32) = i32 h0 := by
          have := rget (n := 16) (s_Row_set 16 hu (i32 k) (i32 (itr f k h0))) (k := 0) (by omega) (by omega)
          rw [show (0 : Int32) = i32 0 from rfl, this, hset 0 (by omega)]; rfl
        rcases ny with ⟨q, q1, rfl⟩ | ⟨q1, _⟩
        · have e := hu_f G.1 G.2.1 (step k) q1
          have e2 : itr f (k + 1) h0 ≠ h0 := t4 (k + 1) (by omega) (by omega)
          obtain ⟨hu', w1, w2⟩ := ih (k + 1) fu _ (by omega) (by omega) hset
          refine ⟨hu', ?_, w2⟩
          rw [s_Mesh_numberHull_L10]
          rw [if_neg (show ¬ ((16 : Int32) ≤ i32 k) from n_le (a := 16) (by omega) (by omega)), if_neg (i32_m1 (by have := lt k; omega)), hy]
          simp only [Option.bind_some]
          have ln := lt (k + 1)
          have l0 := lt 0
          have l0 : h0 < n := l0
          rw [g0, ← e, if_neg (n_eq (by omega) (by omega) e2), i32_s, w1]
        · exact (q1 _ (step k)).elim
    obtain ⟨hu', w1, w2⟩ := run (T - 1) 0 F hu (by omega) (by omega) (fun j hj => by omega)
    have w1 : s_Mesh_numberHull_L10 F (i32 n) th F (i32 h0) hu (0 : Int32) = some ((-1 : Int32), hu', i32 T) := w1
    rw [w1]
    refine ⟨hu', T, fun k => itr f k h0, rfl, w2, t2, ?_, fun _ p hp => hl p hp, t7, fun z => by omega⟩
    intro k hk
    show Hu n P E (itr f k h0) (itr f (if k + 1 < T then k + 1 else 0) h0)
    by_cases c : k + 1 < T
    · rw [if_pos c]; exact step k
    · rw [if_neg c]
      have := step k
      rw [show k + 1 = T by omega, t3] at this
      exact this
  · obtain ⟨F, rfl⟩ : ∃ j, F = j + 1 := ⟨F - 1, by omega⟩
    have w1 : s_Mesh_numberHull_L10 (F + 1) (i32 n) th (F + 1) (-1 : Int32) hu (0 : Int32) = some ((-1 : Int32), hu, (0 : Int32)) := by
      rw [s_Mesh_numberHull_L10]
      rw [if_neg (by decide), if_pos rfl]
    rw [w1]
    refine ⟨hu, 0, fun _ => 0, rfl, fun k hk => by omega, by omega, fun k hk => by omega, fun z => by omega, ?_, fun _ p => hl p⟩
    rw [sumr_ext n _ (fun _ => 0) (fun p _ => ind_f (hl p)), sumr_const]; omega
end HULL
/-- all that is so of the edges, by their numbers -/
def Dat (n m : Nat) (X Y : Nat → Int) (L H : Nat → Nat) (E : Nat → Nat → Prop) (c : Nat) (f g : Nat → Nat) (t : Nat) (ta tb tc : Nat → Nat) (T : Nat) (hp : Nat → Nat) : Prop :=
  Gs n (pt X Y) E ∧ (∀ i, i < m → E (L i) (H i)) ∧ c ≤ 42 ∧ Lsa (fun u v => E u v ∧ u < v) c f g ∧ TrD n (pt X Y) E t ta tb tc ∧ HuD n (pt X Y) E T hp
abbrev MeshT : Type := (Nat → Int32) × (Nat → Int32) × (Nat → Int32) × (Nat → Int32) × (Nat → Int32) × (Nat → Int32) × (Nat → Int32) × (Nat → Int32) × Int32 × Int32 × Int32
/-- the class's mesh -/
def CR (n : Nat) (X Y : Nat → Int) (E : Nat → Nat → Prop) (c : Nat) (f g : Nat → Nat) (t : Nat) (ta tb tc : Nat → Nat) (T : Nat) (hp : Nat → Nat) (M : MeshT) : Prop :=
  LF n (pt X Y) M.1 ∧ TH n (pt X Y) E M.2.1 ∧ OwR t ta tb tc M.2.2.1 ∧ LK M.2.2.2.1 E ∧ EdR c f g M.2.2.2.2.1 M.2.2.2.2.2.1 ∧ CoR t ta tb tc M.2.2.2.2.2.2.1 ∧
    (∀ k, k < T → M.2.2.2.2.2.2.2.1 k = i32 (hp k)) ∧ M.2.2.2.2.2.2.2.2.1 = i32 c ∧ M.2.2.2.2.2.2.2.2.2.1 = i32 t ∧ M.2.2.2.2.2.2.2.2.2.2 = i32 T
/-- the reference's edges and triangles -/
def BR (E : Nat → Nat → Prop) (t : Nat) (ta tb tc : Nat → Nat) (o : (Nat → Int32) × (Nat → Int32) × Int32) : Prop :=
  ME o.1 E ∧ CoR t ta tb tc o.2.1 ∧ o.2.2 = i32 t
/-- both sides show the same -/
def Sim (n m : Nat) (X Y : Nat → Int) (L H : Nat → Nat) (M : MeshT) (o : (Nat → Int32) × (Nat → Int32) × Int32) : Prop :=
  ∃ E c f g t ta tb tc T hp, Dat n m X Y L H E c f g t ta tb tc T hp ∧ CR n X Y E c f g t ta tb tc T hp M ∧ BR E t ta tb tc o
section DRAW
variable {n m : Nat} {X Y : Nat → Int} {L H : Nat → Nat} {pxs pys plo phi : Nat → Int32} {pn pm : Int32} {mnow : Nat → Int32}
theorem line_no (hO : Ok n m X Y L H) {E : Nat → Nat → Prop} (G : Ge n (pt X Y) E) (h : ∀ c, 2 ≤ c → c < n → dt (pt X Y 0) (pt X Y 1) (pt X Y c) = 0) : ∀ u v w, ¬ Ap n (pt X Y) E u v w := by
  intro u v w hw
  obtain ⟨h1, h2, h3, h4, h5, h6⟩ := ap_lt G hw
  have z : ∀ c, c < n → dt (pt X Y 0) (pt X Y 1) (pt X Y c) = 0 := by
    intro c hc
    by_cases c0 : c = 0
    · rw [c0, dt_aba]
    · by_cases c1 : c = 1
      · rw [c1, dt_baa]
      · exact h c (by omega) hc
  have := cram (pt X Y 0) (pt X Y 1) (zup 0) (pt X Y u) (pt X Y v) (pt X Y w)
  rw [z u h1, z v h2, z w h3, Int.zero_mul, Int.zero_mul, Int.zero_mul] at this
  have hd := hw.2.2.2.1
  have e := (Int.mul_eq_zero.1 this).resolve_right (by omega)
  rw [up_key rfl rfl] at e
  have := gk_inj G hO.2.2.1 (i := 0) (j := 1) (by omega) (by omega) (by omega)
  omega
theorem phi_0 {P : Nat → Int × Int × Int} {E : Nat → Nat → Prop} (h : ∀ u v w, ¬ Ap n P E u v w) : Phi n P E = 0 := by
  unfold Phi
  rw [sumr_ext 256 _ (fun _ => 0) (fun k _ => by
    unfold cel
    rw [sumr_ext n _ (fun _ => 0) (fun p _ => ind_f (fun ⟨w, hw, _⟩ => h _ _ w hw)), sumr_const]; omega), sumr_const]
theorem draw_sim (hC : CP n m X Y L H pxs pys plo phi pn pm) (hM : MP n m X Y L H mnow) (hO : Ok n m X Y L H) (F : Nat) (hF : 1000 ≤ F)
    (lf th ow lk el eh co hu medg mcor : Nat → Int32) :
    ∃ M o, s_Mesh_draw F pxs pys plo phi pn pm lf th ow lk el eh co hu = some M ∧ s_Mod_builds F mnow medg mcor = some o ∧ Sim n m X Y L H M o := by
  have hn := hO.1
  have e1 := hC.1
  subst e1
  have hF3 : 300 ≤ F := by omega
  obtain ⟨lf', a1, a2⟩ := c_sides hC hO F hF3 lf
  obtain ⟨E0, G0, M0, c0, ⟨lk1, el1, eh1, ne1, b1, b2⟩, x1, x2, x3, d1, d2, d3, d4⟩ := greedy hC hM hO F hF3 a2 lk el eh medg
  obtain ⟨th1, t1, t2⟩ := c_ft hn G0 a2 b2 F hF3 th
  have S0 := gs_mx G0 hO.2.2.1 M0
  have pb := phi_bd (E := E0) (P := pt X Y) hn
  obtain ⟨E, r', th2, lk2, medg2, ⟨G, hc, hT, hK, hE⟩, hz, r1, r2⟩ := f_rounds hC hM hO F hF3 683 0 F F E0 th1 lk1 x3 ⟨S0, c0, t2, b2, d4⟩ (by omega) (by omega) (by omega) (by omega)
  obtain ⟨el3, eh3, c, f, g, n1, n2, n3, n4⟩ := c_numE hn G.1 hO.2.2.1 hK F hF3 el1 eh1
  obtain ⟨t, ta, tb, tc, ow3, co3, mcor3, u1, u2, u3, u4, u5, u6⟩ := t_all hM hO hE G.1 hT F hF3 ow co mcor
  obtain ⟨hu3, T, hp, v1, v2, v3⟩ := c_hull hn G hO.2.2.1 hT F hF3 hu
  have r1 : s_Mesh_draw_L16 F pxs pys plo phi (i32 n) pm F (1 : Int32) (0 : Int32) th1 lk1 = some ((0 : Int32), r', th2, lk2) := r1
  have D : Dat n m X Y L H E c f g t ta tb tc T hp := ⟨G, hc, n2, n4, u1, v3⟩
  have K : CR n X Y E c f g t ta tb tc T hp (lf', th2, ow3, lk2, el3, eh3, co3, hu3, i32 c, i32 t, i32 T) := ⟨a2, hT, u2, hK, n3, u3, v2, rfl, rfl, rfl⟩
  have dr : s_Mesh_draw F pxs pys plo phi (i32 n) pm lf th ow lk el eh co hu = some (lf', th2, ow3, lk2, el3, eh3, co3, hu3, i32 c, i32 t, i32 T) := by
    unfold s_Mesh_draw
    rw [a1]
    simp only [Option.bind_some]
    rw [b1]
    simp only [Option.bind_some]
    rw [t1]
    simp only [Option.bind_some]
    rw [r1]
    simp only [Option.bind_some]
    rw [n1]
    simp only [Option.bind_some]
    rw [u5]
    simp only [Option.bind_some]
    rw [v1]
    simp only [Option.bind_some]
  have ml := m_line hM hO F hF3
  by_cases q : ∀ c, 2 ≤ c → c < n → dt (pt X Y 0) (pt X Y 1) (pt X Y c) = 0
  · have no := line_no hO G.1 q
    have t0 : t = 0 := by
      by_cases z : t = 0
      · exact z
      · exact (no _ _ _ (u1.2.1 0 (by omega)).1).elim
    have eE : E = E0 := hz (by rw [phi_0 (line_no hO G0 q)]; omega)
    refine ⟨_, (x3, mcor, (0 : Int32)), dr, ?_, E, c, f, g, t, ta, tb, tc, T, hp, D, K, ?_, ?_, ?_⟩
    · unfold s_Mod_builds
      rw [d1]
      simp only [Option.bind_some]
      rw [d2]
      simp only [Option.bind_some]
      rw [d3]
      simp only [Option.bind_some]
      rw [ml]
      simp only [Option.bind_some]
      rw [if_neg (bI_t q)]
    · rw [eE]; exact d4
    · intro k hk; omega
    · rw [t0]; rfl
  · refine ⟨_, (medg2, mcor3, i32 t), dr, ?_, E, c, f, g, t, ta, tb, tc, T, hp, D, K, hE, u4, rfl⟩
    unfold s_Mod_builds
    rw [d1]
    simp only [Option.bind_some]
    rw [d2]
    simp only [Option.bind_some]
    rw [d3]
    simp only [Option.bind_some]
    rw [ml]
    simp only [Option.bind_some]
    rw [if_pos (bI_f q), r2]
    simp only [Option.bind_some]
    rw [u6]
    simp only [Option.bind_some]
end DRAW

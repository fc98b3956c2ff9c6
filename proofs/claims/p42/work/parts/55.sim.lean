section TRI
variable {n m : Nat} {X Y : Nat → Int} {L H : Nat → Nat} {mnow : Nat → Int32}
/-- the triangles so far, on both sides -/
def TI (n : Nat) (P : Nat → Int × Int × Int) (E : Nat → Nat → Prop) (x y : Nat) (s : (Nat → Int32) × (Nat → Int32) × Int32) (t : (Nat → Int32) × Int32) : Prop :=
  ∃ c ta tb tc, s.2.2 = i32 c ∧ t.2 = i32 c ∧ OwR c ta tb tc s.1 ∧ CoR c ta tb tc s.2.1 ∧ CoR c ta tb tc t.1 ∧ (∀ k, k < c → Ap n P E (ta k) (tb k) (tc k) ∧ ta k < tc k) ∧ Lst (Tr n P E) c ta tb x y
theorem t_pair (hM : MP n m X Y L H mnow) (hO : Ok n m X Y L H) {medg th : Nat → Int32} {E : Nat → Nat → Prop} (hE : ME medg E) (G : Ge n (pt X Y) E) (hT : TH n (pt X Y) E th) (F : Nat) (hF : 300 ≤ F)
    {a b : Nat} (hab : a < b) (hb : b < n) {s : (Nat → Int32) × (Nat → Int32) × Int32} {t : (Nat → Int32) × Int32} (hI : TI n (pt X Y) E a b s t) :
    ∃ s' t', TI n (pt X Y) E a (b + 1) s' t' ∧
      (∀ k, s_Mesh_numberTriangles_L29 (i32 n) th (i32 a) (k + 1) (i32 b) s.1 s.2.1 s.2.2 = s_Mesh_numberTriangles_L29 (i32 n) th (i32 a) k (i32 (b + 1)) s'.1 s'.2.1 s'.2.2) ∧
      (∀ k, s_Mod_builds_L206 F mnow medg (i32 a) (k + 1) (i32 b) t.1 t.2 = s_Mod_builds_L206 F mnow medg (i32 a) k (i32 (b + 1)) t'.1 t'.2) := by
  have hn := hO.1
  obtain ⟨c, ta, tb, tc, h1, h2, h3, h4, h5, h6, h7⟩ := hI
  have bd := tr_bd hn G hO.2.2.1 h7
  have r3 := m_row3 hM hO hE G F hF hab hb (show c < 39 by omega) t.1
  have skip : ¬ Tr n (pt X Y) E a b → (s_Tab_get (-1) th (i32 a) (i32 b) ≤ i32 a) → ∃ s' t', TI n (pt X Y) E a (b + 1) s' t' ∧
      (∀ k, s_Mesh_numberTriangles_L29 (i32 n) th (i32 a) (k + 1) (i32 b) s.1 s.2.1 s.2.2 = s_Mesh_numberTriangles_L29 (i32 n) th (i32 a) k (i32 (b + 1)) s'.1 s'.2.1 s'.2.2) ∧
      (∀ k, s_Mod_builds_L206 F mnow medg (i32 a) (k + 1) (i32 b) t.1 t.2 = s_Mod_builds_L206 F mnow medg (i32 a) k (i32 (b + 1)) t'.1 t'.2) := by
    intro nt le
    refine ⟨s, t, ⟨c, ta, tb, tc, h1, h2, h3, h4, h5, h6, lst_skip h7 nt⟩, ?_, ?_⟩
    · intro k
      simp only [s_Mesh_numberTriangles_L29]
      rw [if_neg (show ¬ (s_Plan_points (i32 n) ≤ i32 b) from n_le (by omega) hb), if_pos le, i32_s]
    · intro k
      simp only [s_Mod_builds_L206, m_n hM, Option.bind_some]
      rw [if_neg (n_le (by omega) hb), h2, i32_s, r3.2 (fun ⟨w, w1, w2⟩ => nt ⟨w, w1, hab, w2⟩)]
      simp only [Option.bind_some]
      rw [i32_s]
  rcases th_ar hT (show a < 16 by omega) (show b < 16 by omega) with ⟨w, w1, w2⟩ | ⟨w1, w2⟩
  · obtain ⟨_, _, hw, _, bw, wa⟩ := ap_lt G w1
    by_cases z : a < w
    · have tr : Tr n (pt X Y) E a b := ⟨w, w1, hab, z⟩
      have l' := lst_add h7 tr
      have bd' := tr_bd hn G hO.2.2.1 l'
      refine ⟨((s_Tab_set (s_Tab_set (s_Tab_set s.1 (i32 a) (i32 b) (i32 c)) (i32 b) (i32 w) (i32 c)) (i32 w) (i32 a) (i32 c)), (fun j => if j = 3 * c + 2 then i32 w else if j = 3 * c + 1 then i32 b else if j = 3 * c then i32 a else s.2.1 j), i32 (c + 1)),
        ((fun j => if j = 3 * c + 2 then i32 w else if j = 3 * c + 1 then i32 b else if j = 3 * c then i32 a else t.1 j), i32 (c + 1)),
        ⟨c + 1, fun k => if k = c then a else ta k, fun k => if k = c then b else tb k, fun k => if k = c then w else tc k, rfl, rfl, owr_add h3 (by omega) (by omega) (by omega), cor_add (N := 0) h4 a b w, cor_add (N := 0) h5 a b w, ?_, l'⟩, ?_, ?_⟩
      · intro k hk
        show Ap n (pt X Y) E (if k = c then a else ta k) (if k = c then b else tb k) (if k = c then w else tc k) ∧ (if k = c then a else ta k) < (if k = c then w else tc k)
        by_cases q : k = c
        · rw [if_pos q, if_pos q, if_pos q]; exact ⟨w1, z⟩
        · rw [if_neg q, if_neg q, if_neg q]; exact h6 k (by omega)
      · intro k
        simp only [s_Mesh_numberTriangles_L29, s_Mesh_addTriangle]
        rw [if_neg (show ¬ (s_Plan_points (i32 n) ≤ i32 b) from n_le (by omega) hb), w2, if_neg (n_le (by omega) z), h1,
          show (3 : Int32) = i32 3 from rfl, i32_mul, show (1 : Int32) = i32 1 from rfl, show (2 : Int32) = i32 2 from rfl, i32_add, i32_add, i32_add, i32_add,
          rset s.2.1 _ (by omega) (by omega), rset _ _ (by omega) (by omega), rset _ _ (by omega) (by omega)]
      · intro k
        simp only [s_Mod_builds_L206, m_n hM, Option.bind_some]
        rw [if_neg (n_le (by omega) hb), h2, i32_s, r3.1 w w1 z]
        simp only [Option.bind_some]
        rw [i32_s]
    · exact skip (fun ⟨w', x1, _, x2⟩ => z (by have := ap_un G w1 x1; omega)) (by rw [w2]; exact y_le (by omega) (by omega))
  · refine skip (fun ⟨w', x1, _⟩ => w1 w' x1) ?_
    rw [w2, Int32.le_iff_toInt_le, i32_ti (by omega)]
    have : (-1 : Int32).toInt = -1 := by decide
    omega
theorem t_row (hM : MP n m X Y L H mnow) (hO : Ok n m X Y L H) {medg th : Nat → Int32} {E : Nat → Nat → Prop} (hE : ME medg E) (G : Ge n (pt X Y) E) (hT : TH n (pt X Y) E th) (F : Nat) (hF : 300 ≤ F)
    {a : Nat} (ha : a < n) {s : (Nat → Int32) × (Nat → Int32) × Int32} {t : (Nat → Int32) × Int32} (hI : TI n (pt X Y) E a (a + 1) s t) :
    ∃ s' t', TI n (pt X Y) E (a + 1) (a + 2) s' t' ∧
      s_Mesh_numberTriangles_L29 (i32 n) th (i32 a) F (i32 (a + 1)) s.1 s.2.1 s.2.2 = some (i32 n, s'.1, s'.2.1, s'.2.2) ∧
      s_Mod_builds_L206 F mnow medg (i32 a) F (i32 (a + 1)) t.1 t.2 = some (i32 n, t'.1, t'.2) := by
  have hn := hO.1
  obtain ⟨s', t', ⟨_, q1⟩, q2, q3⟩ := lpTwo (fun k i (s : (Nat → Int32) × (Nat → Int32) × Int32) => s_Mesh_numberTriangles_L29 (i32 n) th (i32 a) k (i32 i) s.1 s.2.1 s.2.2)
    (fun k i (t : (Nat → Int32) × Int32) => s_Mod_builds_L206 F mnow medg (i32 a) k (i32 i) t.1 t.2) n
    (fun i s t => a < i ∧ TI n (pt X Y) E a i s t) (fun s => (i32 n, s.1, s.2.1, s.2.2)) (fun t => (i32 n, t.1, t.2))
    (fun k s t h => by simp only [s_Mesh_numberTriangles_L29]; rw [if_pos (show s_Plan_points (i32 n) ≤ i32 n from y_le (by omega) (by omega))])
    (fun k s t h => by simp only [s_Mod_builds_L206, m_n hM, Option.bind_some]; rw [if_pos (y_le (by omega) (by omega))])
    (fun i s t hi ⟨hai, h⟩ => by
      obtain ⟨s', t', q1, q2, q3⟩ := t_pair hM hO hE G hT F hF hai hi h
      exact ⟨s', t', ⟨by omega, q1⟩, q2, q3⟩)
    (n - (a + 1)) (a + 1) F F s t (by omega) (by omega) (by omega) ⟨by omega, hI⟩
  obtain ⟨c, ta, tb, tc, h1, h2, h3, h4, h5, h6, h7⟩ := q1
  exact ⟨s', t', ⟨c, ta, tb, tc, h1, h2, h3, h4, h5, h6, lst_row (fun u v ⟨w, w1, w2, _⟩ => ⟨w2, (ap_lt G w1).2.1⟩) h7⟩, q2, q3⟩
/-- the triangles by their numbers -/
def TrD (n : Nat) (P : Nat → Int × Int × Int) (E : Nat → Nat → Prop) (t : Nat) (ta tb tc : Nat → Nat) : Prop :=
  t ≤ 27 ∧ (∀ k, k < t → Ap n P E (ta k) (tb k) (tc k) ∧ ta k < tc k) ∧ Lsa (Tr n P E) t ta tb
theorem t_all (hM : MP n m X Y L H mnow) (hO : Ok n m X Y L H) {medg th : Nat → Int32} {E : Nat → Nat → Prop} (hE : ME medg E) (G : Ge n (pt X Y) E) (hT : TH n (pt X Y) E th) (F : Nat) (hF : 300 ≤ F)
    (ow co mcor : Nat → Int32) :
    ∃ t ta tb tc ow' co' mcor', TrD n (pt X Y) E t ta tb tc ∧ OwR t ta tb tc ow' ∧ CoR t ta tb tc co' ∧ CoR t ta tb tc mcor' ∧
      s_Mesh_numberTriangles F (i32 n) th ow co = some (ow', co', i32 t) ∧ s_Mod_builds_L194 F mnow medg F (0 : Int32) mcor (0 : Int32) = some (i32 n, mcor', i32 t) := by
  have hn := hO.1
  have hR : ∀ u v, Tr n (pt X Y) E u v → u < v ∧ v < n := fun u v ⟨w, w1, w2, _⟩ => ⟨w2, (ap_lt G w1).2.1⟩
  obtain ⟨v1, hv1, hz⟩ := tab_clear F hF (-1) ow
  obtain ⟨s', t', q1, q2, q3⟩ := lpTwo (fun k i (s : (Nat → Int32) × (Nat → Int32) × Int32) => s_Mesh_numberTriangles_L14 F (i32 n) th k (i32 i) s.1 s.2.1 s.2.2)
    (fun k i (t : (Nat → Int32) × Int32) => s_Mod_builds_L194 F mnow medg k (i32 i) t.1 t.2) n
    (fun i s t => TI n (pt X Y) E i (i + 1) s t) (fun s => (i32 n, s.1, s.2.1, s.2.2)) (fun t => (i32 n, t.1, t.2))
    (fun k s t h => by simp only [s_Mesh_numberTriangles_L14]; rw [if_pos (show s_Plan_points (i32 n) ≤ i32 n from y_le (by omega) (by omega))])
    (fun k s t h => by simp only [s_Mod_builds_L194, m_n hM, Option.bind_some]; rw [if_pos (y_le (by omega) (by omega))])
    (fun i s t hi h => by
      obtain ⟨s', t', q1, q2, q3⟩ := t_row hM hO hE G hT F hF hi h
      refine ⟨s', t', q1, ?_, ?_⟩
      · intro k
        simp only [s_Mesh_numberTriangles_L14]
        rw [if_neg (show ¬ (s_Plan_points (i32 n) ≤ i32 i) from n_le (by omega) hi), i32_s, q2]
        simp only [Option.bind_some]
      · intro k
        simp only [s_Mod_builds_L194, m_n hM, Option.bind_some]
        rw [if_neg (n_le (by omega) hi), i32_s, q3]
        simp only [Option.bind_some])
    n 0 F F (v1, co, (0 : Int32)) (mcor, (0 : Int32)) (by omega) (by omega) (by omega)
    ⟨0, fun _ => 0, fun _ => 0, fun _ => 0, rfl, rfl, fun u v hu hv => Or.inr ⟨fun k hk => by omega, hz _ (by omega)⟩, fun k hk => by omega, fun k hk => by omega, fun k hk => by omega, lst_0 _ (fun u v h => (hR u v h).1) _ _⟩
  obtain ⟨c, ta, tb, tc, h1, h2, h3, h4, h5, h6, h7⟩ := q1
  refine ⟨c, ta, tb, tc, s'.1, s'.2.1, t'.1, ⟨tr_bd hn G hO.2.2.1 h7, h6, lst_end hR h7⟩, h3, h4, h5, ?_, ?_⟩
  · unfold s_Mesh_numberTriangles
    have q2 : s_Mesh_numberTriangles_L14 F (i32 n) th F (0 : Int32) v1 co (0 : Int32) = some (i32 n, s'.1, s'.2.1, s'.2.2) := q2
    rw [hv1]
    simp only [Option.bind_some]
    rw [q2, ← h1]; rfl
  · rw [← h2]; exact q3
end TRI

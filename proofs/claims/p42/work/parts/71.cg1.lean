section CG1
variable {F n m : Nat} {X Y : Nat → Int} {L H : Nat → Nat} {pxs pys plo phi : Nat → Int32} {pn pm : Int32} {mnow : Nat → Int32}
theorem c_lh (hC : CP n m X Y L H pxs pys plo phi pn pm) (hO : Ok n m X Y L H) {c : Nat} (hc : c < m) :
    s_Row_get 10 plo (i32 c) = i32 (L c) ∧ s_Row_get 10 phi (i32 c) = i32 (H c) ∧ L c < n ∧ H c < n := by
  have hm := hO.2.1
  have := hO.2.2.2.2.1 c hc
  rw [rget plo (by omega) (by omega), rget phi (by omega) (by omega)]
  exact ⟨(hC.2.2.2 c hc).1, (hC.2.2.2 c hc).2, by omega, by omega⟩
theorem c_covC (hC : CP n m X Y L H pxs pys plo phi pn pm) (hO : Ok n m X Y L H) (hF : 300 ≤ F) {x y : Int32} {P Q : Int} (hx : R32 x P 100) (hy : R32 y Q 100) :
    s_Plan_constraintCovers F pxs pys plo phi pm x y = some (dB (∃ c, c < m ∧ cov (pt X Y (L c)) (pt X Y (H c)) (P, Q, 1))) := by
  have hm := hO.2.1
  have h := ffB (fun k i => s_Plan_constraintCovers_L2 pxs pys plo phi pm x y k (i32 i)) m (fun c => cov (pt X Y (L c)) (pt X Y (H c)) (P, Q, 1)) (Sum.inl true) (Sum.inr (i32 m))
    (fun k => by simp only [s_Plan_constraintCovers_L2, hC.2.1]; rw [if_pos (y_le (by omega) (by omega))])
    (fun k i hi h => by
      obtain ⟨g1, g2, g3, g4⟩ := c_lh hC hO hi
      simp only [s_Plan_constraintCovers_L2, hC.2.1, g1, g2, c_cov hC hO g3 g4 hx hy]
      rw [if_neg (n_le (by omega) hi), if_neg (bI_t h)])
    (fun k i hi h => by
      obtain ⟨g1, g2, g3, g4⟩ := c_lh hC hO hi
      simp only [s_Plan_constraintCovers_L2, hC.2.1, g1, g2, c_cov hC hO g3 g4 hx hy]
      rw [if_neg (n_le (by omega) hi), if_pos (bI_f h), i32_s])
    0 F (by omega) (by omega)
  unfold s_Plan_constraintCovers
  rcases h with ⟨⟨j, _, h1, h2⟩, e⟩ | ⟨h1, e⟩
  · have e : s_Plan_constraintCovers_L2 pxs pys plo phi pm x y F (0 : Int32) = some (Sum.inl true) := e
    rw [e, dB_t ⟨j, h1, h2⟩]; rfl
  · have e : s_Plan_constraintCovers_L2 pxs pys plo phi pm x y F (0 : Int32) = some (Sum.inr (i32 m)) := e
    rw [e, dB_f (fun ⟨p, q1, q2⟩ => h1 p (by omega) q1 q2)]; rfl
/-- a place that can't be had -/
def Bar (n m : Nat) (X Y : Nat → Int) (L H : Nat → Nat) (P Q : Int) : Prop := (∃ p, p < n ∧ X p = P ∧ Y p = Q) ∨ ∃ c, c < m ∧ cov (pt X Y (L c)) (pt X Y (H c)) (P, Q, 1)
theorem c_admP (hC : CP n m X Y L H pxs pys plo phi pn pm) (hO : Ok n m X Y L H) (hF : 300 ≤ F) {x y : Int32} {P Q : Int} (hx : R32 x P 100) (hy : R32 y Q 100) :
    s_Plan_admitsPoint F pxs pys plo phi pn pm x y = some (dB (¬ Bar n m X Y L H P Q)) := by
  have hn := hO.1
  unfold s_Plan_admitsPoint
  obtain ⟨r, r1, r2⟩ := c_ptAt hC hO hF hx hy
  rw [r1]
  simp only [Option.bind_some]
  rcases r2 with ⟨p, p1, p2, p3, rfl⟩ | ⟨r2, rfl⟩
  · rw [if_neg (i32_m1 (by omega)), dB_f (show ¬ ¬ Bar n m X Y L H P Q from fun k => k (Or.inl ⟨p, p1, p2, p3⟩))]
  · rw [if_pos (show (-1 : Int32) = (-1 : Int32) from rfl), c_covC hC hO hF hx hy]
    simp only [Option.bind_some]
    by_cases k : ∃ c, c < m ∧ cov (pt X Y (L c)) (pt X Y (H c)) (P, Q, 1)
    · rw [if_neg (bI_t k), dB_f (show ¬ ¬ Bar n m X Y L H P Q from fun z => z (Or.inr k))]
    · rw [if_pos (bI_f k), dB_t (show ¬ Bar n m X Y L H P Q from fun z => Or.elim z (fun ⟨p, q1, q2⟩ => r2 p q1 q2) k)]
theorem m_bar (hM : MP n m X Y L H mnow) (hO : Ok n m X Y L H) (hF : 300 ≤ F) (a0 : Int32) {x y : Int32} {P Q : Int} (hx : R32 x P 100) (hy : R32 y Q 100) :
    s_Mod_isBarred F mnow a0 x y = some (dB ((∃ p, p < n ∧ ¬ i32 p = a0 ∧ X p = P ∧ Y p = Q) ∨ ∃ c, c < m ∧ cov (pt X Y (L c)) (pt X Y (H c)) (P, Q, 1))) := by
  have hn := hO.1
  have hm := hO.2.1
  have ex : ∀ i, i < n → (mnow (2 + i) = x ↔ X i = P) := fun i hi => by rw [← Int32.toInt_inj, (m_rx hM hO hi).1, hx.1]
  have ey : ∀ i, i < n → (mnow (19 + i) = y ↔ Y i = Q) := fun i hi => by rw [← Int32.toInt_inj, (m_ry hM hO hi).1, hy.1]
  have h := ffB (fun k i => s_Mod_isBarred_L3 mnow a0 x y k (i32 i)) n (fun p => ¬ i32 p = a0 ∧ X p = P ∧ Y p = Q) (Sum.inl true) (Sum.inr (i32 n))
    (fun k => by simp only [s_Mod_isBarred_L3, m_n hM, Option.bind_some]; rw [if_pos (y_le (by omega) (by omega))])
    (fun k i hi h => by
      simp only [s_Mod_isBarred_L3, m_n hM, m_x mnow (show i < 17 by omega), m_y mnow (show i < 17 by omega), Option.bind_some]
      rw [if_neg (n_le (by omega) hi), if_neg h.1, if_pos ((ex i hi).2 h.2.1), if_pos ((ey i hi).2 h.2.2)])
    (fun k i hi h => by
      simp only [s_Mod_isBarred_L3, m_n hM, m_x mnow (show i < 17 by omega), m_y mnow (show i < 17 by omega), Option.bind_some]
      rw [if_neg (n_le (by omega) hi), i32_s]
      by_cases h1 : i32 i = a0
      · rw [if_pos h1]
      rw [if_neg h1]
      by_cases h2 : X i = P
      · rw [if_pos ((ex i hi).2 h2), if_neg (fun z => h ⟨h1, h2, (ey i hi).1 z⟩)]
      · rw [if_neg (fun z => h2 ((ex i hi).1 z))])
    0 F (by omega) (by omega)
  have h9 := ffB (fun k i => s_Mod_isBarred_L49 mnow x y k (i32 i)) m (fun c => cov (pt X Y (L c)) (pt X Y (H c)) (P, Q, 1)) (Sum.inl true) (Sum.inr (i32 m))
    (fun k => by simp only [s_Mod_isBarred_L49, m_m hM, Option.bind_some]; rw [if_pos (y_le (by omega) (by omega))])
    (fun k i hi h => by
      have q := hO.2.2.2.2.1 i hi
      simp only [s_Mod_isBarred_L49, m_m hM, m_end0 hM hO hi, m_end1 hM hO hi, m_on hM hO (show L i < n by omega) (show H i < n by omega) hx hy, Option.bind_some]
      rw [if_neg (n_le (by omega) hi), if_neg (bI_t h)])
    (fun k i hi h => by
      have q := hO.2.2.2.2.1 i hi
      simp only [s_Mod_isBarred_L49, m_m hM, m_end0 hM hO hi, m_end1 hM hO hi, m_on hM hO (show L i < n by omega) (show H i < n by omega) hx hy, Option.bind_some]
      rw [if_neg (n_le (by omega) hi), if_pos (bI_f h), i32_s])
    0 F (by omega) (by omega)
  unfold s_Mod_isBarred
  rcases h with ⟨⟨j, _, h1, h2⟩, e⟩ | ⟨h1, e⟩
  · have e : s_Mod_isBarred_L3 mnow a0 x y F (0 : Int32) = some (Sum.inl true) := e
    rw [e, dB_t (Or.inl ⟨j, h1, h2⟩)]; rfl
  · have e : s_Mod_isBarred_L3 mnow a0 x y F (0 : Int32) = some (Sum.inr (i32 n)) := e
    rw [e]
    simp only [Option.bind_some, Sum.elim_inr]
    rcases h9 with ⟨⟨j, _, k1, k2⟩, e9⟩ | ⟨k1, e9⟩
    · have e9 : s_Mod_isBarred_L49 mnow x y F (0 : Int32) = some (Sum.inl true) := e9
      rw [e9, dB_t (Or.inr ⟨j, k1, k2⟩)]; rfl
    · have e9 : s_Mod_isBarred_L49 mnow x y F (0 : Int32) = some (Sum.inr (i32 m)) := e9
      rw [e9, dB_f (fun z => Or.elim z (fun ⟨p, q1, q2⟩ => h1 p (by omega) q1 q2) (fun ⟨p, q1, q2⟩ => k1 p (by omega) q1 q2))]; rfl
theorem m_bar0 (hM : MP n m X Y L H mnow) (hO : Ok n m X Y L H) (hF : 300 ≤ F) {x y : Int32} {P Q : Int} (hx : R32 x P 100) (hy : R32 y Q 100) :
    s_Mod_isBarred F mnow (-1 : Int32) x y = some (dB (Bar n m X Y L H P Q)) := by
  have hn := hO.1
  rw [m_bar hM hO hF (-1) hx hy]
  refine congrArg some (dB_cong ⟨fun z => ?_, fun z => ?_⟩)
  · rcases z with ⟨p, q1, q2, q3⟩ | z
    · exact Or.inl ⟨p, q1, q3⟩
    · exact Or.inr z
  · rcases z with ⟨p, q1, q3⟩ | z
    · exact Or.inl ⟨p, q1, i32_m1 (by omega), q3⟩
    · exact Or.inr z
/-- whether a point can be added, on both sides -/
theorem q_new (hC : CP n m X Y L H pxs pys plo phi pn pm) (hM : MP n m X Y L H mnow) (hO : Ok n m X Y L H) (hF : 300 ≤ F) (a0 a1 : Int32) :
    (∃ P Q, P < 101 ∧ Q < 101 ∧ a0 = i32 P ∧ a1 = i32 Q ∧ n < 16 ∧ ¬ Bar n m X Y L H P Q ∧ s_Top_requirePosition a0 a1 = .inr () ∧ s_Top_requireNewPoint F pxs pys plo phi pn pm a0 a1 = some (.inr ()) ∧ s_Mod_whyNot F mnow a0 a1 = some (0 : Int32)) ∨
    (s_Top_requirePosition a0 a1 = .inl "java/lang/IllegalArgumentException" ∧ s_Mod_whyNot F mnow a0 a1 = some (1 : Int32)) ∨
    (s_Top_requirePosition a0 a1 = .inr () ∧ s_Top_requireNewPoint F pxs pys plo phi pn pm a0 a1 = some (.inl "java/lang/IllegalStateException") ∧ s_Mod_whyNot F mnow a0 a1 = some (2 : Int32)) ∨
    (s_Top_requirePosition a0 a1 = .inr () ∧ s_Top_requireNewPoint F pxs pys plo phi pn pm a0 a1 = some (.inl "java/lang/UnsupportedOperationException") ∧ s_Mod_whyNot F mnow a0 a1 = some (3 : Int32)) := by
  have hn := hO.1
  have e := hC.1
  unfold s_Mod_whyNot s_Top_requireNewPoint
  rcases c_rpos (a0 := a0) (a1 := a1) with ⟨P, Q, hP, hQ, rfl, rfl, r1, r2⟩ | ⟨r1, r2⟩
  · have hx := i32_r hP
    have hy := i32_r hQ
    rw [r2, if_neg (show ¬ (bI true = 0) by decide), m_n hM]
    simp only [Option.bind_some]
    by_cases z : n = 16
    · rw [e, if_pos (show i32 n = (16 : Int32) from by rw [z]; rfl), if_neg (show ¬ (s_Plan_points (i32 n) < (16 : Int32)) from n_lt (b := 16) (by omega) (by omega))]
      exact Or.inr (Or.inr (Or.inl ⟨r1, rfl, rfl⟩))
    · rw [if_neg (show ¬ (i32 n = (16 : Int32)) from n_eq (b := 16) (by omega) (by omega) z), m_bar0 hM hO hF hx hy, c_admP hC hO hF hx hy, e,
        if_pos (show s_Plan_points (i32 n) < (16 : Int32) from y_lt (b := 16) (by omega) (by omega))]
      simp only [Option.bind_some]
      by_cases k : Bar n m X Y L H P Q
      · rw [if_neg (bI_t k), if_pos (bI_f (fun z => z k))]
        exact Or.inr (Or.inr (Or.inr ⟨r1, rfl, rfl⟩))
      · rw [if_pos (bI_f k), if_neg (bI_t (fun z => k z))]
        exact Or.inl ⟨P, Q, hP, hQ, rfl, rfl, by omega, k, r1, rfl, rfl⟩
  · rw [r2, if_pos (show bI false = 0 from rfl)]
    exact Or.inr (Or.inl ⟨r1, rfl⟩)
theorem c_ends (hC : CP n m X Y L H pxs pys plo phi pn pm) (hO : Ok n m X Y L H) (hF : 300 ≤ F) {a : Nat} (ha : a < n) :
    s_Plan_endsConstraint F plo phi pm (i32 a) = some (dB (∃ c, c < m ∧ (L c = a ∨ H c = a))) := by
  have hn := hO.1
  have hm := hO.2.1
  have h := ffB (fun k i => s_Plan_endsConstraint_L2 plo phi pm (i32 a) k (i32 i)) m (fun c => L c = a ∨ H c = a) (Sum.inl true) (Sum.inr (i32 m))
    (fun k => by simp only [s_Plan_endsConstraint_L2, hC.2.1]; rw [if_pos (y_le (by omega) (by omega))])
    (fun k i hi h => by
      obtain ⟨g1, g2, g3, g4⟩ := c_lh hC hO hi
      simp only [s_Plan_endsConstraint_L2, hC.2.1, g1, g2]
      rw [if_neg (n_le (by omega) hi)]
      by_cases k : L i = a
      · rw [if_pos (by rw [k])]
      · rw [if_neg (n_eq (by omega) (by omega) k), if_pos (by rw [h.resolve_left k])])
    (fun k i hi h => by
      obtain ⟨g1, g2, g3, g4⟩ := c_lh hC hO hi
      simp only [s_Plan_endsConstraint_L2, hC.2.1, g1, g2]
      rw [if_neg (n_le (by omega) hi), if_neg (n_eq (by omega) (by omega) (fun z => h (Or.inl z))), if_neg (n_eq (by omega) (by omega) (fun z => h (Or.inr z))), i32_s])
    0 F (by omega) (by omega)
  unfold s_Plan_endsConstraint
  rcases h with ⟨⟨j, _, h1, h2⟩, e⟩ | ⟨h1, e⟩
  · have e : s_Plan_endsConstraint_L2 plo phi pm (i32 a) F (0 : Int32) = some (Sum.inl true) := e
    rw [e, dB_t ⟨j, h1, h2⟩]; rfl
  · have e : s_Plan_endsConstraint_L2 plo phi pm (i32 a) F (0 : Int32) = some (Sum.inr (i32 m)) := e
    rw [e, dB_f (fun ⟨p, q1, q2⟩ => h1 p (by omega) q1 q2)]; rfl
theorem m_isEnd (hM : MP n m X Y L H mnow) (hO : Ok n m X Y L H) (hF : 300 ≤ F) {a : Nat} (ha : a < n) :
    s_Mod_isEnd F mnow (i32 a) = some (dB (∃ c, c < m ∧ (L c = a ∨ H c = a))) := by
  have hn := hO.1
  have hm := hO.2.1
  have h := ffB (fun k i => s_Mod_isEnd_L2 mnow (i32 a) k (i32 i)) m (fun c => L c = a ∨ H c = a) (Sum.inl true) (Sum.inr (i32 m))
    (fun k => by simp only [s_Mod_isEnd_L2, m_m hM, Option.bind_some]; rw [if_pos (y_le (by omega) (by omega))])
    (fun k i hi h => by
      have q := hO.2.2.2.2.1 i hi
      simp only [s_Mod_isEnd_L2, m_m hM, m_end0 hM hO hi, m_end1 hM hO hi, Option.bind_some]
      rw [if_neg (n_le (by omega) hi)]
      by_cases k : L i = a
      · rw [if_pos (by rw [k])]
      · rw [if_neg (n_eq (by omega) (by omega) k), if_pos (by rw [h.resolve_left k])])
    (fun k i hi h => by
      have q := hO.2.2.2.2.1 i hi
      simp only [s_Mod_isEnd_L2, m_m hM, m_end0 hM hO hi, m_end1 hM hO hi, Option.bind_some]
      rw [if_neg (n_le (by omega) hi), if_neg (n_eq (by omega) (by omega) (fun z => h (Or.inl z))), if_neg (n_eq (by omega) (by omega) (fun z => h (Or.inr z))), i32_s])
    0 F (by omega) (by omega)
  unfold s_Mod_isEnd
  rcases h with ⟨⟨j, _, h1, h2⟩, e⟩ | ⟨h1, e⟩
  · have e : s_Mod_isEnd_L2 mnow (i32 a) F (0 : Int32) = some (Sum.inl true) := e
    rw [e, dB_t ⟨j, h1, h2⟩]; rfl
  · have e : s_Mod_isEnd_L2 mnow (i32 a) F (0 : Int32) = some (Sum.inr (i32 m)) := e
    rw [e, dB_f (fun ⟨p, q1, q2⟩ => h1 p (by omega) q1 q2)]; rfl
/-- whether a point is no end, on both sides -/
theorem q_loose (hC : CP n m X Y L H pxs pys plo phi pn pm) (hM : MP n m X Y L H mnow) (hO : Ok n m X Y L H) (hF : 300 ≤ F) {a : Nat} (ha : a < n) :
    ((∀ c, c < m → L c ≠ a ∧ H c ≠ a) ∧ s_Top_requireLoosePoint F plo phi pm (i32 a) = some (.inr ()) ∧ s_Mod_isEnd F mnow (i32 a) = some false) ∨
    (s_Top_requireLoosePoint F plo phi pm (i32 a) = some (.inl "java/lang/IllegalStateException") ∧ s_Mod_isEnd F mnow (i32 a) = some true) := by
  unfold s_Top_requireLoosePoint
  rw [c_ends hC hO hF ha, m_isEnd hM hO hF ha]
  simp only [Option.bind_some]
  by_cases k : ∃ c, c < m ∧ (L c = a ∨ H c = a)
  · rw [if_neg (bI_t k), dB_t k]; exact Or.inr ⟨rfl, rfl⟩
  · rw [if_pos (bI_f k), dB_f k]
    exact Or.inl ⟨fun c hc => ⟨fun z => k ⟨c, hc, Or.inl z⟩, fun z => k ⟨c, hc, Or.inr z⟩⟩, rfl, rfl⟩
theorem c_crosses (hC : CP n m X Y L H pxs pys plo phi pn pm) (hO : Ok n m X Y L H) {a b c d : Nat} (ha : a < n) (hb : b < n) (hc : c < n) (hd : d < n) :
    s_Plan_crosses pxs pys (i32 a) (i32 b) (i32 c) (i32 d) = dB (Pc (pt X Y) a b c d) := by
  have pc := pc_iff (P := pt X Y) (a := a) (b := b) (c := c) (d := d) rfl rfl rfl rfl
  unfold s_Plan_crosses
  rw [c_side hC hO ha hb hc, c_side hC hO ha hb hd, c_side hC hO hc hd ha, c_side hC hO hc hd hb, sg_mul, sg_mul]
  by_cases p1 : dt (pt X Y a) (pt X Y b) (pt X Y c) * dt (pt X Y a) (pt X Y b) (pt X Y d) < 0
  · rw [if_neg (fun k => by have := (sg_ge _).1 k; omega)]
    by_cases p2 : dt (pt X Y c) (pt X Y d) (pt X Y a) * dt (pt X Y c) (pt X Y d) (pt X Y b) < 0
    · rw [if_neg (fun k => by have := (sg_ge _).1 k; omega), dB_t (pc.1 ⟨p1, p2⟩)]
    · rw [if_pos ((sg_ge _).2 (by omega)), dB_f (fun k => p2 (pc.2 k).2)]
  · rw [if_pos ((sg_ge _).2 (by omega)), dB_f (fun k => p1 (pc.2 k).1)]
/-- a segment that can be had -/
def Seg (n m : Nat) (X Y : Nat → Int) (L H : Nat → Nat) (a b : Nat) : Prop :=
  (¬ ∃ c, c < m ∧ L c = min a b ∧ H c = max a b) ∧ (¬ ∃ p, p < n ∧ cov (pt X Y a) (pt X Y b) (pt X Y p)) ∧ ¬ ∃ c, c < m ∧ Pc (pt X Y) a b (L c) (H c)
theorem c_admS (hC : CP n m X Y L H pxs pys plo phi pn pm) (hO : Ok n m X Y L H) (hF : 300 ≤ F) {a b : Nat} (ha : a < n) (hb : b < n) :
    s_Plan_admitsSegment F pxs pys plo phi pn pm (i32 a) (i32 b) = some (dB (Seg n m X Y L H a b)) := by
  have hn := hO.1
  have hm := hO.2.1
  have h := ffB (fun k i => s_Plan_admitsSegment_L22 pxs pys plo phi pm (i32 a) (i32 b) k (i32 i)) m (fun c => Pc (pt X Y) a b (L c) (H c)) (Sum.inl false) (Sum.inr (i32 m))
    (fun k => by simp only [s_Plan_admitsSegment_L22, hC.2.1]; rw [if_pos (y_le (by omega) (by omega))])
    (fun k i hi h => by
      obtain ⟨g1, g2, g3, g4⟩ := c_lh hC hO hi
      simp only [s_Plan_admitsSegment_L22, hC.2.1, g1, g2, c_crosses hC hO ha hb g3 g4]
      rw [if_neg (n_le (by omega) hi), if_neg (bI_t h)])
    (fun k i hi h => by
      obtain ⟨g1, g2, g3, g4⟩ := c_lh hC hO hi
      simp only [s_Plan_admitsSegment_L22, hC.2.1, g1, g2, c_crosses hC hO ha hb g3 g4]
      rw [if_neg (n_le (by omega) hi), if_pos (bI_f h), i32_s])
    0 F (by omega) (by omega)
  unfold s_Plan_admitsSegment
  rw [c_tied hC hO F hF ha hb, c_cp hC hO F hF ha hb]
  simp only [Option.bind_some]
  by_cases k1 : ∃ c, c < m ∧ L c = min a b ∧ H c = max a b
  · rw [if_neg (bI_t k1), dB_f (fun z => z.1 k1)]
  rw [if_pos (bI_f k1)]
  by_cases k2 : ∃ p, p < n ∧ cov (pt X Y a) (pt X Y b) (pt X Y p)
  · rw [if_neg (bI_t k2), dB_f (fun z => z.2.1 k2)]
  rw [if_pos (bI_f k2)]
  rcases h with ⟨⟨j, _, h1, h2⟩, e⟩ | ⟨h1, e⟩
  · have e : s_Plan_admitsSegment_L22 pxs pys plo phi pm (i32 a) (i32 b) F (0 : Int32) = some (Sum.inl false) := e
    rw [e, dB_f (fun z => z.2.2 ⟨j, h1, h2⟩)]; rfl
  · have e : s_Plan_admitsSegment_L22 pxs pys plo phi pm (i32 a) (i32 b) F (0 : Int32) = some (Sum.inr (i32 m)) := e
    rw [e, dB_t (show Seg n m X Y L H a b from ⟨k1, k2, fun ⟨p, q1, q2⟩ => h1 p (by omega) q1 q2⟩)]; rfl
theorem cr_pc (hO : Ok n m X Y L H) {a b c : Nat} (ha : a < n) (hb : b < n) (hc : c < m) (nt : ¬ ∃ c, c < m ∧ L c = min a b ∧ H c = max a b) (np : ¬ ∃ p, p < n ∧ cov (pt X Y a) (pt X Y b) (pt X Y p)) :
    Cr (pt X Y) a b (L c) (H c) ↔ Pc (pt X Y) a b (L c) (H c) := by
  have q := hO.2.2.2.2.1 c hc
  refine ⟨fun z => ?_, Or.inl⟩
  rcases z with z | ⟨_, _, ⟨z1, z2⟩ | z | z | z | z⟩
  · exact z
  · exact (nt ⟨c, hc, by omega, by omega⟩).elim
  · exact (np ⟨_, by omega, z⟩).elim
  · exact (np ⟨_, by omega, z⟩).elim
  · exact (hO.2.2.2.2.2.2.1 c a hc ha z).elim
  · exact (hO.2.2.2.2.2.2.1 c b hc hb z).elim
end CG1
